/-! promises 23 and 24: rows of colours, counted in two ways -/
def rgS (p : Nat → Bool) (h : Nat → Nat) : Nat → Nat → Nat
  | 0, _ => 0
  | f + 1, v => cond (p v) (h v) 0 + rgS p h f (v + 1)
def rgF (p : Nat → Bool) (h : Nat → Option (Nat → Nat)) : Nat → Nat → Option (Nat → Nat)
  | 0, _ => none
  | f + 1, v => cond (p v) (match h v with
    | some x => some x
    | none => rgF p h f (v + 1)) (rgF p h f (v + 1))
/-- may a cell have a colour beside the earlier ones, s sides looked at -/
def okS (b : Nat) (r : Nat → Nat) (c v : Nat) : Nat → Bool
  | 0 => true
  | s + 1 => okS b r c v s && decide (tAt b c s = 1023 ∨ c ≤ tAt b c s ∨ r (tAt b c s) ≠ v)
def okB (b : Nat) (r : Nat → Nat) (c v : Nat) : Bool := okS b r c v (bp b)
/-- all rows -/
def fc (b k : Nat) : Nat → Nat → (Nat → Nat) → Nat
  | 0, _, _ => 1
  | j + 1, c, r => rgS (okB b r c) (fun v => fc b k j (c + 1) (uN r c v)) k 0
/-- the first row -/
def fs (b k : Nat) : Nat → Nat → (Nat → Nat) → Option (Nat → Nat)
  | 0, _, r => some r
  | j + 1, c, r => rgF (okB b r c) (fun v => fs b k j (c + 1) (uN r c v)) k 0
/-- rows whose new colours are the least free ones, each for all the free ones -/
def ct (b k : Nat) : Nat → Nat → (Nat → Nat) → Nat → Nat
  | 0, _, _, _ => 1
  | j + 1, c, r, u => rgS (okB b r c) (fun v => if v = u then (k - u) * ct b k j (c + 1) (uN r c v) (u + 1) else ct b k j (c + 1) (uN r c v) u) (min (u + 1) k) 0
theorem rgS_add (p : Nat → Bool) (h : Nat → Nat) : ∀ (f1 f2 v : Nat), rgS p h (f1 + f2) v = rgS p h f1 v + rgS p h f2 (v + f1)
  | 0, f2, v => by
    rw [Nat.zero_add]
    show _ = 0 + _
    rw [Nat.zero_add, Nat.add_zero]
  | f1 + 1, f2, v => by
    rw [show f1 + 1 + f2 = (f1 + f2) + 1 by omega]
    show cond (p v) (h v) 0 + rgS p h (f1 + f2) (v + 1) = cond (p v) (h v) 0 + rgS p h f1 (v + 1) + _
    rw [rgS_add p h f1 f2 (v + 1), show v + 1 + f1 = v + (f1 + 1) by omega]
    omega
theorem rgS_cong {p p' : Nat → Bool} {h h' : Nat → Nat} : ∀ {f v : Nat}, (∀ w, v ≤ w → w < v + f → p w = p' w ∧ (p w = true → h w = h' w)) → rgS p h f v = rgS p' h' f v
  | 0, v, _ => rfl
  | f + 1, v, H => by
    simp only [rgS]
    have h1 := H v (by omega) (by omega)
    rw [rgS_cong (fun w a b => H w (by omega) (by omega)), h1.1]
    cases hp : p' v with
    | false => rfl
    | true =>
      rw [h1.1] at h1
      rw [h1.2 hp]
theorem rgS_mul (p : Nat → Bool) (h : Nat → Nat) (a : Nat) : ∀ (f v : Nat), rgS p (fun w => a * h w) f v = a * rgS p h f v
  | 0, v => rfl
  | f + 1, v => by
    simp only [rgS]
    rw [rgS_mul p h a f (v + 1), Nat.mul_add]
    cases p v <;> rfl
theorem rgS_const {p : Nat → Bool} {h : Nat → Nat} {x : Nat} : ∀ {f v : Nat}, (∀ w, v ≤ w → w < v + f → p w = true ∧ h w = x) → rgS p h f v = f * x
  | 0, v, _ => by rw [Nat.zero_mul]; rfl
  | f + 1, v, H => by
    simp only [rgS]
    have h1 := H v (by omega) (by omega)
    rw [rgS_const (fun w a b => H w (by omega) (by omega)), h1.1, h1.2, Nat.succ_mul]
    show x + f * x = _
    omega
theorem rgS_le {p : Nat → Bool} {h : Nat → Nat} {x : Nat} : ∀ {f v : Nat}, (∀ w, v ≤ w → w < v + f → p w = true → h w ≤ x) → rgS p h f v ≤ f * x
  | 0, v, _ => by rw [Nat.zero_mul]; exact Nat.le_refl 0
  | f + 1, v, H => by
    simp only [rgS]
    have h1 := H v (by omega) (by omega)
    have h2 := rgS_le (f := f) (v := v + 1) (fun w a b => H w (by omega) (by omega))
    rw [Nat.succ_mul]
    cases hp : p v with
    | false =>
      show 0 + _ ≤ _
      omega
    | true =>
      show h v + _ ≤ _
      have := h1 hp
      omega
theorem rgS_hole {p : Nat → Bool} {h : Nat → Nat} {x k w : Nat} (hk : k ≤ 4) (hw : w < k) (hp : p w = false) (H : ∀ w, w < k → p w = true → h w ≤ x) : rgS p h k 0 ≤ 3 * x := by
  have e : k = w + (1 + (k - w - 1)) := by omega
  rw [e, rgS_add, rgS_add]
  have h1 : rgS p h w 0 ≤ w * x := rgS_le (fun v _ a => H v (by omega))
  have h2 : rgS p h (k - w - 1) (0 + w + 1) ≤ (k - w - 1) * x := rgS_le (fun v _ a => H v (by omega))
  have h3 : rgS p h 1 (0 + w) = 0 := by
    show cond (p (0 + w)) (h (0 + w)) 0 + 0 = 0
    rw [Nat.zero_add, hp]
    rfl
  have h4 : w * x + (k - w - 1) * x ≤ 3 * x := by
    rw [← Nat.add_mul]
    exact Nat.mul_le_mul_right _ (by omega)
  omega
theorem okS_cong {b c v : Nat} {r r' : Nat → Nat} (h : ∀ i, i < c → r i = r' i) : ∀ s, okS b r c v s = okS b r' c v s
  | 0 => rfl
  | s + 1 => by
    simp only [okS]
    rw [okS_cong h s]
    by_cases q : tAt b c s < c
    · rw [h _ q]
    · rw [decide_eq_true (Or.inr (Or.inl (by omega))), decide_eq_true (Or.inr (Or.inl (by omega)))]
theorem fc_cong {b k : Nat} : ∀ (j c : Nat) (r r' : Nat → Nat), (∀ i, i < c → r i = r' i) → fc b k j c r = fc b k j c r'
  | 0, _, _, _, _ => rfl
  | j + 1, c, r, r', h => by
    simp only [fc]
    refine rgS_cong (fun w _ _ => ⟨okS_cong h _, fun _ => fc_cong j (c + 1) _ _ (fun i hi => ?_)⟩)
    by_cases e : i = c
    · rw [e, uN_s, uN_s]
    · rw [uN_n e, uN_n e]
      exact h i (by omega)
/-- two colours change places -/
def sw (p q x : Nat) : Nat := if x = p then q else if x = q then p else x
theorem sw_sw (p q x : Nat) : sw p q (sw p q x) = x := by
  unfold sw
  by_cases h1 : x = p
  · rw [if_pos h1]
    by_cases h2 : q = p
    · rw [if_pos h2, h1, h2]
    · rw [if_neg h2, if_pos rfl, h1]
  · rw [if_neg h1]
    by_cases h2 : x = q
    · rw [if_pos h2, if_pos rfl, h2]
    · rw [if_neg h2, if_neg h1, if_neg h2]
theorem sw_inj {p q x y : Nat} : sw p q x = sw p q y ↔ x = y := ⟨fun h => by rw [← sw_sw p q x, h, sw_sw], fun h => by rw [h]⟩
theorem okS_sw {b c v p q : Nat} {r : Nat → Nat} : ∀ s, okS b (fun i => sw p q (r i)) c v s = okS b r c (sw p q v) s
  | 0 => rfl
  | s + 1 => by
    simp only [okS]
    rw [okS_sw s]
    congr 1
    have e : (sw p q (r (tAt b c s)) ≠ v) ↔ (r (tAt b c s) ≠ sw p q v) := by
      rw [ne_eq, ne_eq, show (sw p q (r (tAt b c s)) = v) ↔ (r (tAt b c s) = sw p q v) by rw [← sw_inj (p := p) (q := q), sw_sw]]
    simp only [e]
theorem rgS_sw {k p q : Nat} (P : Nat → Bool) (H : Nat → Nat) (hk : k ≤ 4) (hp : p < k) (hq : q < k) : rgS (fun v => P (sw p q v)) (fun v => H (sw p q v)) k 0 = rgS P H k 0 := by
  rcases (show k = 0 ∨ k = 1 ∨ k = 2 ∨ k = 3 ∨ k = 4 by omega) with rfl | rfl | rfl | rfl | rfl
  · rfl
  · rcases (show p = 0 by omega) with rfl
    rcases (show q = 0 by omega) with rfl
    rfl
  · rcases (show p = 0 ∨ p = 1 by omega) with rfl | rfl <;> rcases (show q = 0 ∨ q = 1 by omega) with rfl | rfl <;> simp [rgS, sw] <;> omega
  · rcases (show p = 0 ∨ p = 1 ∨ p = 2 by omega) with rfl | rfl | rfl <;> rcases (show q = 0 ∨ q = 1 ∨ q = 2 by omega) with rfl | rfl | rfl <;> simp [rgS, sw] <;> omega
  · rcases (show p = 0 ∨ p = 1 ∨ p = 2 ∨ p = 3 by omega) with rfl | rfl | rfl | rfl <;> rcases (show q = 0 ∨ q = 1 ∨ q = 2 ∨ q = 3 by omega) with rfl | rfl | rfl | rfl <;> simp [rgS, sw] <;> omega
theorem fc_sw {b k p q : Nat} (hk : k ≤ 4) (hp : p < k) (hq : q < k) : ∀ (j c : Nat) (r : Nat → Nat), fc b k j c (fun i => sw p q (r i)) = fc b k j c r
  | 0, _, _ => rfl
  | j + 1, c, r => by
    simp only [fc]
    rw [← rgS_sw (okB b r c) (fun v => fc b k j (c + 1) (uN r c v)) hk hp hq]
    refine rgS_cong (fun w _ _ => ⟨okS_sw _, fun _ => ?_⟩)
    rw [← fc_sw hk hp hq j (c + 1) (uN r c (sw p q w))]
    refine fc_cong j (c + 1) _ _ (fun i hi => ?_)
    by_cases e : i = c
    · rw [e, uN_s, uN_s, sw_sw]
    · rw [uN_n e, uN_n e]
theorem okS_new {b c v : Nat} {r : Nat → Nat} (h : ∀ i, i < c → r i < v) : ∀ s, okS b r c v s = true
  | 0 => rfl
  | s + 1 => by
    simp only [okS]
    rw [okS_new h s, Bool.true_and, decide_eq_true_iff]
    by_cases q : tAt b c s < c
    · have := h _ q
      exact Or.inr (Or.inr (by omega))
    · exact Or.inr (Or.inl (by omega))
theorem ct_eq {b k : Nat} (hk : k ≤ 4) : ∀ (j c : Nat) (r : Nat → Nat) (u : Nat), u ≤ k → (∀ i, i < c → r i < u) → ct b k j c r u = fc b k j c r
  | 0, _, _, _, _, _ => rfl
  | j + 1, c, r, u, hu, hr => by
    simp only [ct, fc]
    have low : ∀ f, f ≤ u → rgS (okB b r c) (fun v => if v = u then (k - u) * ct b k j (c + 1) (uN r c v) (u + 1) else ct b k j (c + 1) (uN r c v) u) f 0 = rgS (okB b r c) (fun v => fc b k j (c + 1) (uN r c v)) f 0 := by
      intro f hf
      refine rgS_cong (fun w _ hw => ⟨rfl, fun _ => ?_⟩)
      show (if w = u then _ else _) = _
      rw [if_neg (by omega)]
      refine ct_eq hk j (c + 1) _ u hu (fun i hi => ?_)
      by_cases e : i = c
      · rw [e, uN_s]; omega
      · rw [uN_n e]
        exact hr i (by omega)
    by_cases q : u < k
    · rw [show min (u + 1) k = u + 1 by omega, rgS_add, low u (Nat.le_refl u), show rgS (okB b r c) (fun v => fc b k j (c + 1) (uN r c v)) k 0 = rgS (okB b r c) (fun v => fc b k j (c + 1) (uN r c v)) (u + (k - u)) 0 by rw [show u + (k - u) = k by omega], rgS_add]
      congr 1
      have h1 : ∀ w, u ≤ w → w < k → okB b r c w = true ∧ fc b k j (c + 1) (uN r c w) = fc b k j (c + 1) (uN r c u) := by
        intro w w1 w2
        refine ⟨okS_new (fun i hi => by have := hr i hi; omega) _, ?_⟩
        rw [← fc_sw hk w2 q j (c + 1) (uN r c u)]
        refine fc_cong j (c + 1) _ _ (fun i hi => ?_)
        by_cases e : i = c
        · rw [e, uN_s, uN_s]
          unfold sw
          by_cases e2 : u = w
          · rw [if_pos e2, e2]
          · rw [if_neg e2, if_pos rfl]
        · rw [uN_n e, uN_n e]
          have := hr i (by omega)
          unfold sw
          rw [if_neg (by omega), if_neg (by omega)]
      have h2 : rgS (okB b r c) (fun v => if v = u then (k - u) * ct b k j (c + 1) (uN r c v) (u + 1) else ct b k j (c + 1) (uN r c v) u) 1 (0 + u) = (k - u) * fc b k j (c + 1) (uN r c u) := by
        show cond (okB b r c (0 + u)) (if 0 + u = u then (k - u) * ct b k j (c + 1) (uN r c (0 + u)) (u + 1) else ct b k j (c + 1) (uN r c (0 + u)) u) 0 + 0 = _
        rw [Nat.zero_add, (h1 u (Nat.le_refl u) q).1, if_pos rfl]
        show (k - u) * ct b k j (c + 1) (uN r c u) (u + 1) + 0 = _
        rw [Nat.add_zero]
        congr 1
        refine ct_eq hk j (c + 1) _ (u + 1) (by omega) (fun i hi => ?_)
        by_cases e : i = c
        · rw [e, uN_s]; omega
        · rw [uN_n e]
          have := hr i (by omega)
          omega
      have h3 : rgS (okB b r c) (fun v => fc b k j (c + 1) (uN r c v)) (k - u) (0 + u) = (k - u) * fc b k j (c + 1) (uN r c u) := rgS_const (fun w a1 a2 => h1 w (by omega) (by omega))
      rw [h2, h3]
    · have e : u = k := by omega
      subst e
      rw [show min (u + 1) u = u by omega]
      exact low u (Nat.le_refl u)
theorem okS_f {b c v s0 : Nat} {r : Nat → Nat} (h1 : tAt b c s0 < c) (h2 : c < 1023) (h3 : r (tAt b c s0) = v) : ∀ s, s0 < s → okS b r c v s = false
  | 0, h => absurd h (by omega)
  | s + 1, h => by
    simp only [okS]
    by_cases e : s0 = s
    · subst e
      rw [decide_eq_false (fun z => by
        rcases z with z | z | z
        · omega
        · omega
        · exact z h3), Bool.and_false]
    · rw [okS_f h1 h2 h3 s (by omega), Bool.false_and]
theorem fc_le {b k : Nat} (hb : b < 22) (hk : k ≤ 4) : ∀ (j c : Nat) (r : Nat → Nat), 1 ≤ c → c + j ≤ bn b → (∀ i, i < c → r i < k) → fc b k j c r ≤ 3 ^ j
  | 0, _, _, _, _, _ => Nat.le_refl 1
  | j + 1, c, r, h1, h2, hr => by
    have t0 := tb0 hb
    have hc : c < bn b := by omega
    have t2 := tb2 hb hc h1
    have t6 := tb6 hb hc h1
    have t1 := (tb1 hb hc).2.2.2.1.resolve_left t6
    simp only [fc]
    rw [Nat.pow_succ, Nat.mul_comm]
    refine rgS_hole hk (w := r (tAt b c 0)) (by rw [t2.1]; exact hr _ t1) (okS_f (s0 := 0) (by rw [t2.1]; exact t1) (by omega) rfl _ (by omega)) (fun w hw _ => fc_le hb hk j (c + 1) _ (by omega) (by omega) (fun i hi => ?_))
    by_cases e : i = c
    · rw [e, uN_s]; exact hw
    · rw [uN_n e]
      exact hr i (by omega)
theorem fc_top {b k m : Nat} {r : Nat → Nat} (hb : b < 22) (hk : k ≤ 4) (h1 : 1 ≤ m) (h2 : m ≤ 16) (h3 : m ≤ bn b) : fc b k m 0 r ≤ 2 ^ 30 := by
  obtain ⟨j, rfl⟩ : ∃ j, m = j + 1 := ⟨m - 1, by omega⟩
  simp only [fc]
  have h : rgS (okB b r 0) (fun v => fc b k j (0 + 1) (uN r 0 v)) k 0 ≤ k * 3 ^ j := rgS_le (fun w _ hw _ => fc_le hb hk j 1 _ (by omega) (by omega) (fun i hi => by
    rw [show i = 0 by omega, uN_s]
    omega))
  have h4 : 3 ^ j ≤ 3 ^ 15 := Nat.pow_le_pow_right (by omega) (by omega)
  have h5 : k * 3 ^ j ≤ 4 * 3 ^ 15 := Nat.mul_le_mul hk h4
  have h6 : 4 * 3 ^ 15 ≤ 2 ^ 30 := by decide
  omega
/-- a first row is there just where there are rows -/
theorem rgF_some {p : Nat → Bool} {h : Nat → Option (Nat → Nat)} {n : Nat → Nat} (H : ∀ v, (h v).isSome = true ↔ 0 < n v) : ∀ (f v : Nat), (rgF p h f v).isSome = true ↔ 0 < rgS p n f v
  | 0, v => by
    simp [rgF, rgS]
  | f + 1, v => by
    have ih := rgF_some H (p := p) f (v + 1)
    simp only [rgF, rgS]
    cases hp : p v with
    | false =>
      show (rgF p h f (v + 1)).isSome = true ↔ 0 < 0 + rgS p n f (v + 1)
      rw [Nat.zero_add]
      exact ih
    | true =>
      show (match h v with
        | some x => some x
        | none => rgF p h f (v + 1)).isSome = true ↔ 0 < n v + rgS p n f (v + 1)
      have h1 := H v
      cases hv : h v with
      | none =>
        rw [hv] at h1
        have h2 : ¬ 0 < n v := fun z => by have := h1.mpr z; cases this
        rw [show n v + rgS p n f (v + 1) = rgS p n f (v + 1) by omega]
        exact ih
      | some x =>
        rw [hv] at h1
        have h2 : 0 < n v := h1.mp rfl
        exact ⟨fun _ => by omega, fun _ => rfl⟩
theorem fs_some {b k : Nat} : ∀ (j c : Nat) (r : Nat → Nat), (fs b k j c r).isSome = true ↔ 0 < fc b k j c r
  | 0, _, _ => ⟨fun _ => by show 0 < 1; omega, fun _ => rfl⟩
  | j + 1, c, r => rgF_some (fun v => fs_some j (c + 1) (uN r c v)) k 0
theorem rgF_mem {p : Nat → Bool} {h : Nat → Option (Nat → Nat)} {x : Nat → Nat} : ∀ {f v : Nat}, rgF p h f v = some x → ∃ w, w < v + f ∧ h w = some x
  | 0, v, e => by cases e
  | f + 1, v, e => by
    have up : rgF p h f (v + 1) = some x → ∃ w, w < v + (f + 1) ∧ h w = some x := fun z => by
      obtain ⟨w, a1, a2⟩ := rgF_mem z
      exact ⟨w, by omega, a2⟩
    simp only [rgF] at e
    cases hp : p v with
    | false =>
      rw [hp] at e
      exact up e
    | true =>
      rw [hp] at e
      cases hv : h v with
      | none =>
        rw [hv] at e
        exact up e
      | some y =>
        rw [hv] at e
        exact ⟨v, by omega, by rw [hv]; exact e⟩
theorem fs_lt {b k : Nat} {x : Nat → Nat} : ∀ (j c : Nat) (r : Nat → Nat), (∀ i, i < c → r i < k) → fs b k j c r = some x → ∀ i, i < c + j → x i < k
  | 0, c, r, hr, e, i, hi => by
    have e' : some r = some x := e
    cases e'
    exact hr i hi
  | j + 1, c, r, hr, e, i, hi => by
    obtain ⟨w, a1, a2⟩ := rgF_mem (show rgF (okB b r c) (fun v => fs b k j (c + 1) (uN r c v)) k 0 = some x from e)
    refine fs_lt j (c + 1) (uN r c w) (fun i hi => ?_) a2 i (by omega)
    by_cases z : i = c
    · rw [z, uN_s]; omega
    · rw [uN_n z]; exact hr i (by omega)
