/-! promises 11, 12 and 14: what both reckon -/
abbrev bsT : Type := (Nat → Nat) × (Nat → Nat) × (Nat → Nat) × Nat
def uN (f : Nat → Nat) (k x : Nat) : Nat → Nat := fun j => if j = k then x else f j
theorem uN_s {f : Nat → Nat} {k x : Nat} : uN f k x k = x := if_pos rfl
theorem uN_n {f : Nat → Nat} {k x j : Nat} (h : j ≠ k) : uN f k x j = f j := if_neg h
def bV (c e : Nat) (t : bsT) : bsT := if t.1 e = 1023 then (uN t.1 e (t.1 c + 1), t.2.1, uN t.2.2.1 t.2.2.2 e, t.2.2.2 + 1) else t
def bW (c e : Nat) (t : bsT) : bsT := if t.1 e = t.1 c + 1 then (t.1, uN t.2.1 e ((t.2.1 e + t.2.1 c) % MD), t.2.2) else t
def bS (b c s : Nat) (t : bsT) : bsT := if tAt b c s = 1023 then t else bW c (tAt b c s) (bV c (tAt b c s) t)
def bD (b c : Nat) (t : bsT) : Nat → bsT
  | 0 => t
  | s + 1 => bS b c s (bD b c t s)
def bF (b : Nat) : Nat → Nat → bsT → bsT
  | 0, _, t => t
  | j + 1, k, t => if k < t.2.2.2 then bF b j (k + 1) (bD b (t.2.2.1 k) t (bp b)) else t
def bI0 (a : Nat) : bsT := (fun c => if c = a then 0 else 1023, fun c => if c = a then 1 else 0, fun _ => a, 1)
/-- how many have been reached -/
def cv (D : Nat → Nat) : Nat → Nat
  | 0 => 0
  | n + 1 => cv D n + if D n = 1023 then 0 else 1
theorem cv_le (D : Nat → Nat) : ∀ n, cv D n ≤ n
  | 0 => Nat.le_refl 0
  | n + 1 => by
    have := cv_le D n
    simp only [cv]
    split <;> omega
theorem cv_out {D : Nat → Nat} {e x : Nat} : ∀ {n}, n ≤ e → cv (uN D e x) n = cv D n
  | 0, _ => rfl
  | n + 1, h => by
    simp only [cv]
    rw [cv_out (by omega), uN_n (by omega)]
theorem cv_upd {D : Nat → Nat} {e x : Nat} (h1 : D e = 1023) (h2 : x ≠ 1023) : ∀ {n}, e < n → cv (uN D e x) n = cv D n + 1
  | 0, h => absurd h (by omega)
  | n + 1, h => by
    simp only [cv]
    by_cases q : e = n
    · subst q
      rw [cv_out (Nat.le_refl _), uN_s, if_neg h2, if_pos h1]
    · rw [cv_upd h1 h2 (show e < n by omega), uN_n (by omega)]
      omega
theorem cv_lt {D : Nat → Nat} {e n : Nat} (h1 : D e = 1023) (h : e < n) : cv D n < n := by
  have h2 := cv_upd (x := 0) h1 (by omega) h
  have h3 := cv_le (uN D e 0) n
  omega
def bInv (b : Nat) (t : bsT) : Prop := (∀ i, i < t.2.2.2 → t.2.2.1 i < bn b ∧ t.1 (t.2.2.1 i) ≠ 1023) ∧ cv t.1 (bn b) = t.2.2.2 ∧ (∀ c, c < bn b → t.1 c ≠ 1023 → t.1 c < t.2.2.2) ∧ (∀ c, c < bn b → t.2.1 c < MD) ∧ (∀ c, c < bn b → t.1 c ≠ 1023 → t.1 c = 0 ∨ ∃ s, s < bp b ∧ tAt b c s < bn b ∧ t.1 (tAt b c s) + 1 = t.1 c)
theorem bInv.e {b : Nat} {t : bsT} (h : bInv b t) : t.2.2.2 ≤ bn b := by
  rw [← h.2.1]
  exact cv_le _ _
theorem bInv.lt {b e : Nat} {t : bsT} (h : bInv b t) (he : e < bn b) (h1 : t.1 e = 1023) : t.2.2.2 < bn b := by
  rw [← h.2.1]
  exact cv_lt h1 he
set_option maxRecDepth 100000 in
theorem kB13_all : (kall 22 fun b => kall (bn b) fun c => kall (bp b) fun s => Nat.beq (tAt b c s) 1023 || !(kall (bp b) fun r => !(Nat.beq (tAt b (tAt b c s) r) c))) = true := by decide +kernel
theorem tb13 {b c s : Nat} (hb : b < 22) (hc : c < bn b) (hs : s < bp b) (h : tAt b c s ≠ 1023) : ∃ r, r < bp b ∧ tAt b (tAt b c s) r = c := by
  have k := kall_ok (kall_ok (kall_ok kB13_all b hb) c hc) s hs
  rw [Bool.or_eq_true] at k
  rcases k with k | k
  · exact absurd (Nat.eq_of_beq_eq_true k) h
  · obtain ⟨r, h1, h2⟩ := kex k
    exact ⟨r, h1, Nat.eq_of_beq_eq_true h2⟩
theorem bInv.V {b c e r : Nat} {t : bsT} (hb : b < 22) (h : bInv b t) (hc : c < bn b) (h1 : t.1 c ≠ 1023) (he : e < bn b) (hr : r < bp b) (hs : tAt b e r = c) : bInv b (bV c e t) ∧ (bV c e t).1 c = t.1 c ∧ (bV c e t).1 e ≠ 1023 := by
  unfold bV
  have t0 := tb0 hb
  by_cases q : t.1 e = 1023
  · rw [if_pos q]
    have q2 := h.lt he q
    have q3 := h.2.2.1 c hc h1
    have hce : c ≠ e := fun z => h1 (z ▸ q)
    refine ⟨⟨fun i hi => ?_, ?_, fun x hx hx1 => ?_, h.2.2.2.1, fun x hx hx1 => ?_⟩, uN_n hce, ?_⟩
    · show uN _ _ _ i < _ ∧ uN t.1 e _ (uN _ _ _ i) ≠ _
      by_cases z : i = t.2.2.2
      · rw [z, uN_s, uN_s]
        exact ⟨he, by omega⟩
      · have hi' : i < t.2.2.2 := by
          have hi2 : i < t.2.2.2 + 1 := hi
          omega
        have z2 := h.1 i hi'
        rw [uN_n z]
        refine ⟨z2.1, ?_⟩
        rw [uN_n (fun z3 => z2.2 (by rw [z3]; exact q))]
        exact z2.2
    · show cv (uN t.1 e _) _ = t.2.2.2 + 1
      rw [cv_upd q (by omega) he, h.2.1]
    · show uN t.1 e _ x < t.2.2.2 + 1
      have hx1' : uN t.1 e (t.1 c + 1) x ≠ 1023 := hx1
      by_cases z : x = e
      · rw [z, uN_s]
        omega
      · rw [uN_n z] at hx1' ⊢
        have := h.2.2.1 x hx hx1'
        omega
    · show uN t.1 e _ x = 0 ∨ ∃ s, s < bp b ∧ tAt b x s < bn b ∧ uN t.1 e _ (tAt b x s) + 1 = uN t.1 e _ x
      have hx1' : uN t.1 e (t.1 c + 1) x ≠ 1023 := hx1
      by_cases z : x = e
      · subst z
        rw [uN_s]
        refine Or.inr ⟨r, hr, by rw [hs]; exact hc, ?_⟩
        rw [hs, uN_n hce]
      · rw [uN_n z] at hx1' ⊢
        rcases h.2.2.2.2 x hx hx1' with y | ⟨s, y1, y2, y3⟩
        · exact Or.inl y
        · refine Or.inr ⟨s, y1, y2, ?_⟩
          rw [uN_n (fun y4 => ?_)]
          · exact y3
          · rw [y4, q] at y3
            have := h.2.2.1 x hx hx1'
            omega
    · show uN t.1 e _ e ≠ 1023
      rw [uN_s]
      omega
  · rw [if_neg q]
    exact ⟨h, rfl, q⟩
theorem bInv.W {b c e : Nat} {t : bsT} (h : bInv b t) : bInv b (bW c e t) ∧ (bW c e t).1 = t.1 := by
  unfold bW
  by_cases q : t.1 e = t.1 c + 1
  · rw [if_pos q]
    refine ⟨⟨h.1, h.2.1, h.2.2.1, fun x hx => ?_, h.2.2.2.2⟩, rfl⟩
    show uN t.2.1 e _ x < MD
    by_cases z : x = e
    · rw [z, uN_s]
      exact Nat.mod_lt _ (by decide)
    · rw [uN_n z]
      exact h.2.2.2.1 x hx
  · rw [if_neg q]
    exact ⟨h, rfl⟩
theorem bInv.S {b c s : Nat} {t : bsT} (hb : b < 22) (h : bInv b t) (hc : c < bn b) (h1 : t.1 c ≠ 1023) (hs : s < bp b) : bInv b (bS b c s t) ∧ (bS b c s t).1 c = t.1 c := by
  unfold bS
  by_cases q : tAt b c s = 1023
  · rw [if_pos q]
    exact ⟨h, rfl⟩
  · rw [if_neg q]
    have t1 := ((tb1 hb hc).2.2.2.2.2 s hs).resolve_left q
    obtain ⟨r, r1, r2⟩ := tb13 hb hc hs q
    obtain ⟨g1, g2, g3⟩ := h.V hb hc h1 t1.1 r1 r2
    obtain ⟨g4, g5⟩ := g1.W (c := c) (e := tAt b c s)
    exact ⟨g4, by rw [g5, g2]⟩
theorem bInv.D {b c : Nat} {t : bsT} (hb : b < 22) (h : bInv b t) (hc : c < bn b) (h1 : t.1 c ≠ 1023) : ∀ s, s ≤ bp b → bInv b (bD b c t s) ∧ (bD b c t s).1 c = t.1 c
  | 0, _ => ⟨h, rfl⟩
  | s + 1, hs => by
    obtain ⟨g1, g2⟩ := bInv.D hb h hc h1 s (by omega)
    obtain ⟨g3, g4⟩ := g1.S hb hc (by rw [g2]; exact h1) (show s < bp b by omega)
    exact ⟨g3, by
      show (bS b c s (bD b c t s)).1 c = _
      rw [g4, g2]⟩
theorem bInv.F {b : Nat} (hb : b < 22) : ∀ (j k : Nat) (t : bsT), bInv b t → bInv b (bF b j k t)
  | 0, k, t, h => h
  | j + 1, k, t, h => by
    simp only [bF]
    by_cases q : k < t.2.2.2
    · rw [if_pos q]
      exact bInv.F hb j (k + 1) _ (h.D hb (h.1 k q).1 (h.1 k q).2 (bp b) (Nat.le_refl _)).1
    · rw [if_neg q]
      exact h
theorem cv_1 {a : Nat} : ∀ {n}, a < n → cv (fun c => if c = a then 0 else 1023) n = 1 := by
  have h0 : ∀ n, n ≤ a → cv (fun c => if c = a then 0 else 1023) n = 0 := by
    intro n
    induction n with
    | zero => intro _; rfl
    | succ n ih =>
      intro h
      simp only [cv]
      rw [ih (by omega)]
      simp [show ¬ n = a by omega]
  intro n
  induction n with
  | zero => intro h; omega
  | succ n ih =>
    intro h
    simp only [cv]
    by_cases q : n = a
    · rw [h0 n (by omega)]
      simp [q]
    · rw [ih (by omega)]
      simp [q]
theorem bInv.I {b a : Nat} (hb : b < 22) (ha : a < bn b) : bInv b (bI0 a) := by
  refine ⟨fun i _ => ⟨ha, ?_⟩, cv_1 ha, fun c _ h => ?_, fun c _ => ?_, fun c _ h => ?_⟩
  · show (if a = a then 0 else 1023) ≠ 1023
    rw [if_pos rfl]
    omega
  · have h' : (if c = a then 0 else 1023) ≠ 1023 := h
    show (if c = a then 0 else 1023) < 1
    by_cases q : c = a
    · rw [if_pos q]; omega
    · rw [if_neg q] at h'
      exact absurd rfl h'
  · show (if c = a then 1 else 0) < MD
    split <;> decide
  · have h' : (if c = a then 0 else 1023) ≠ 1023 := h
    by_cases q : c = a
    · exact Or.inl (if_pos q)
    · rw [if_neg q] at h'
      exact absurd rfl h'
/-- the rows hold it: the class's, the model's -/
def bRc (b : Nat) (t : bsT) (y1 y2 y3 : fA) : Prop := (∀ c, c < bn b → y1 c = nv (t.1 c) ∧ y2 c = nI (t.2.1 c)) ∧ ∀ i, i < t.2.2.2 → y3 i = nI (t.2.2.1 i)
def bRm (b : Nat) (t : bsT) (y1 : fA) (y2 : fL) (y3 : fA) : Prop := (∀ c, c < bn b → y1 c = nv (t.1 c) ∧ y2 c = lN (t.2.1 c)) ∧ ∀ i, i < t.2.2.2 → y3 i = nI (t.2.2.1 i)
theorem nv_1 {x : Nat} (h : x < 1000) : nv x + nI 1 = nv (x + 1) := by
  rw [nv_is (by omega), nv_is (by omega), nI_add]
theorem nv_eq {x y : Nat} (hx : x < 2 ^ 20) (hy : y < 2 ^ 20) : nv x = nv y ↔ x = y := by
  constructor
  · intro h
    by_cases q : x = 1023
    · rw [q, nv_no] at h
      rw [q]
      exact ((nv_NO hy).mp h.symm).symm
    · by_cases q2 : y = 1023
      · rw [q2, nv_no] at h
        rw [q2]
        exact (nv_NO hx).mp h
      · rw [nv_is q, nv_is q2] at h
        exact (nI_eq (by omega) (by omega)).mp h
  · rintro rfl; rfl
theorem bInv.d {b c : Nat} {t : bsT} (hb : b < 22) (h : bInv b t) (hc : c < bn b) : t.1 c = 1023 ∨ t.1 c < 400 := by
  by_cases q : t.1 c = 1023
  · exact Or.inl q
  · have h1 := h.2.2.1 c hc q
    have h2 := h.e
    have t0 := tb0 hb
    exact Or.inr (by omega)
