/-! promise 18: the tape's signs, the first fault, the acts that they tell -/
def isB (c : Nat) : Prop := c = 32 ∨ c = 10
def isF (c : Nat) : Prop := 48 ≤ c ∧ c ≤ 57
def isL (c : Nat) : Prop := c = 102 ∨ c = 108 ∨ c = 114 ∨ c = 98
theorem isB_or (c : Nat) : isB c ∨ ¬ isB c := Classical.em _
def fgf (q : Nat → Nat) : Nat → Nat → Nat
  | 0, _ => 0
  | f + 1, i => if 48 ≤ q i ∧ q i ≤ 57 then fgf q f (i + 1) + 1 else 0
def fg (q : Nat → Nat) (n i : Nat) : Nat := fgf q (n - i) i
theorem fg_t {q : Nat → Nat} {n i : Nat} (hi : i < n) (h : isF (q i)) : fg q n i = fg q n (i + 1) + 1 := by
  unfold fg
  rw [show n - i = (n - (i + 1)) + 1 by omega]
  exact if_pos h
theorem fg_f {q : Nat → Nat} {n i : Nat} (h : ¬ isF (q i)) : fg q n i = 0 := by
  unfold fg
  cases hn : n - i with
  | zero => rfl
  | succ f => exact if_neg h
theorem fg_n {q : Nat → Nat} {n i : Nat} (h : n ≤ i) : fg q n i = 0 := by
  unfold fg
  rw [show n - i = 0 by omega]
  rfl
theorem fgf_le (q : Nat → Nat) : ∀ f i, fgf q f i ≤ f
  | 0, _ => Nat.le_refl 0
  | f + 1, i => by
    simp only [fgf]
    have := fgf_le q f (i + 1)
    split <;> omega
theorem fg_le (q : Nat → Nat) {n i : Nat} (h : i ≤ n) : i + fg q n i ≤ n := by
  have := fgf_le q (n - i) i
  unfold fg
  omega
/-- the number that the first two figures tell -/
def nu (q : Nat → Nat) (n i : Nat) : Nat := if fg q n i ≤ 1 then q i - 48 else (q i - 48) * 10 + (q (i + 1) - 48)
def kdT (c : Nat) : Nat := if c = 102 ∨ c = 108 ∨ c = 114 ∨ c = 98 then 2 else if c = 40 then 4 else if c = 41 then 5 else 0
abbrev tkT : Type := Nat × Nat × Nat
def tlf (q : Nat → Nat) (n : Nat) : Nat → Nat → List tkT
  | 0, _ => []
  | f + 1, i => if i < n then (if q i = 32 ∨ q i = 10 then tlf q n f (i + 1) else if 48 ≤ q i ∧ q i ≤ 57 then ((if fg q n i ≤ 2 then 3 else 0), nu q n i, i) :: tlf q n f (i + fg q n i) else (kdT (q i), q i, i) :: tlf q n f (i + 1)) else []
theorem tlf_f (q : Nat → Nat) (n : Nat) : ∀ f f' i, n - i ≤ f → n - i ≤ f' → tlf q n f i = tlf q n f' i
  | 0, 0, i, _, _ => rfl
  | 0, f' + 1, i, h, _ => by
    simp only [tlf]
    rw [if_neg (by omega)]
  | f + 1, 0, i, _, h => by
    simp only [tlf]
    rw [if_neg (by omega)]
  | f + 1, f' + 1, i, h1, h2 => by
    simp only [tlf]
    by_cases hi : i < n
    · rw [if_pos hi, if_pos hi]
      by_cases hb : q i = 32 ∨ q i = 10
      · rw [if_pos hb, if_pos hb]
        exact tlf_f q n f f' (i + 1) (by omega) (by omega)
      · rw [if_neg hb, if_neg hb]
        by_cases hf : 48 ≤ q i ∧ q i ≤ 57
        · have := fg_t (q := q) hi hf
          rw [if_pos hf, if_pos hf, tlf_f q n f f' (i + fg q n i) (by omega) (by omega)]
        · rw [if_neg hf, if_neg hf, tlf_f q n f f' (i + 1) (by omega) (by omega)]
    · rw [if_neg hi, if_neg hi]
/-- the signs from a place on -/
def tl (q : Nat → Nat) (n i : Nat) : List tkT := tlf q n (n - i) i
theorem tl_n {q : Nat → Nat} {n i : Nat} (h : n ≤ i) : tl q n i = [] := by
  unfold tl
  rw [show n - i = 0 by omega]
  rfl
theorem tl_b {q : Nat → Nat} {n i : Nat} (hi : i < n) (h : isB (q i)) : tl q n i = tl q n (i + 1) := by
  unfold tl
  rw [show n - i = (n - (i + 1)) + 1 by omega]
  simp only [tlf]
  rw [if_pos hi, if_pos (show q i = 32 ∨ q i = 10 from h)]
theorem nb_f {c : Nat} (h : isF c) : ¬ isB c := fun z => by
  unfold isF at h
  unfold isB at z
  omega
theorem tl_f {q : Nat → Nat} {n i : Nat} (hi : i < n) (h : isF (q i)) : tl q n i = ((if fg q n i ≤ 2 then 3 else 0), nu q n i, i) :: tl q n (i + fg q n i) := by
  have := fg_t hi h
  unfold tl
  rw [show n - i = (n - (i + 1)) + 1 by omega]
  simp only [tlf]
  rw [if_pos hi, if_neg (show ¬ (q i = 32 ∨ q i = 10) from nb_f h), if_pos (show 48 ≤ q i ∧ q i ≤ 57 from h), tlf_f q n (n - (i + 1)) (n - (i + fg q n i)) (i + fg q n i) (by omega) (by omega)]
theorem tl_o {q : Nat → Nat} {n i : Nat} (hi : i < n) (h1 : ¬ isB (q i)) (h2 : ¬ isF (q i)) : tl q n i = (kdT (q i), q i, i) :: tl q n (i + 1) := by
  unfold tl
  rw [show n - i = (n - (i + 1)) + 1 by omega]
  simp only [tlf]
  rw [if_pos hi, if_neg (show ¬ (q i = 32 ∨ q i = 10) from h1), if_neg (show ¬ (48 ≤ q i ∧ q i ≤ 57) from h2)]
theorem tlf_len (q : Nat → Nat) (n : Nat) : ∀ f i, (tlf q n f i).length ≤ f
  | 0, i => Nat.le_refl 0
  | f + 1, i => by
    simp only [tlf]
    split
    · split
      · have := tlf_len q n f (i + 1)
        omega
      · split
        · have := tlf_len q n f (i + fg q n i)
          simp only [List.length_cons]
          omega
        · have := tlf_len q n f (i + 1)
          simp only [List.length_cons]
          omega
    · exact Nat.zero_le _
theorem tl_len (q : Nat → Nat) (n i : Nat) : (tl q n i).length ≤ n - i := tlf_len q n _ _
/-- the first fault: its number and its place -/
def ck (n : Nat) : List tkT → Nat → Bool → Nat × Nat
  | [], dp, cn => (if 0 < dp ∨ cn = true then 1 else 0, n)
  | (k, v, p) :: ts, dp, cn =>
    if k = 3 then (if cn = true then (1, p) else if 1 ≤ v ∧ v ≤ 20 then ck n ts dp true else (2, p))
    else if k = 4 then (if dp < 4 then ck n ts (dp + 1) false else (3, p))
    else if k = 5 then (if 0 < dp ∧ cn = false then ck n ts (dp - 1) false else (1, p))
    else if k = 2 then ck n ts dp false else (1, p)
theorem ck_c (n k v p dp : Nat) (ts : List tkT) (cn : Bool) : ck n ((k, v, p) :: ts) dp cn = (if k = 3 then (if cn = true then (1, p) else if 1 ≤ v ∧ v ≤ 20 then ck n ts dp true else (2, p))
    else if k = 4 then (if dp < 4 then ck n ts (dp + 1) false else (3, p))
    else if k = 5 then (if 0 < dp ∧ cn = false then ck n ts (dp - 1) false else (1, p))
    else if k = 2 then ck n ts dp false else (1, p)) := rfl
theorem ck_n (n dp : Nat) (cn : Bool) : ck n [] dp cn = (if 0 < dp ∨ cn = true then 1 else 0, n) := rfl
def rep : Nat → List Nat → List Nat
  | 0, _ => []
  | o + 1, g => g ++ rep o g
theorem rep_len (g : List Nat) : ∀ o, (rep o g).length = o * g.length
  | 0 => by rw [Nat.zero_mul]; rfl
  | o + 1 => by
    simp only [rep, List.length_append]
    rw [rep_len g o, Nat.succ_mul]
    omega
abbrev sgT : Type := Option (List Nat × List tkT)
def sgA (x : List Nat) (s : sgT) : sgT := match s with
  | some (a, e) => some (x ++ a, e)
  | none => none
def sgG (o : Nat) (S : List tkT → sgT) (s : sgT) : sgT := match s with
  | some (g, (k, _, _) :: r) => if k = 5 then sgA (rep o g) (S r) else none
  | _ => none
def sg1 (S : Nat → List tkT → sgT) (dp o : Nat) : List tkT → sgT
  | [] => none
  | (k, v, _) :: r => if k = 2 then sgA (rep o [v]) (S dp r) else if k = 4 ∧ dp < 4 then sgG o (S dp) (S (dp + 1) r) else none
/-- the acts up to the end or to a ')' that shuts what is open; what is left -/
def seg : Nat → Nat → List tkT → sgT
  | 0, _, _ => none
  | f + 1, dp, ts => match ts with
    | [] => some ([], [])
    | (k, v, p) :: r => if k = 5 then some ([], (k, v, p) :: r) else if k = 3 then (if 1 ≤ v ∧ v ≤ 20 then sg1 (seg f) dp v r else none) else sg1 (seg f) dp 1 ((k, v, p) :: r)
/-- what a tape without a fault is like -/
theorem ck1 {n f dp o : Nat} {ts : List tkT} {cn : Bool} (hdp : dp ≤ 4) (ho : o ≤ 20) (hl : ts.length ≤ f) (h : (ck n ts dp cn).1 = 0) (h5 : ∀ k v p r, ts = (k, v, p) :: r → k ≠ 5 ∧ k ≠ 3) (hn : ts ≠ []) (IH : ∀ (ts : List tkT) (dp : Nat), dp ≤ 4 → ts.length < f → (ck n ts dp false).1 = 0 → ∃ a e, seg f dp ts = some (a, e) ∧ e.length ≤ ts.length ∧ a.length ≤ (ts.length - e.length) * 20 ^ (5 - dp) ∧ ((e = [] ∧ dp = 0) ∨ ∃ v p r, e = (5, v, p) :: r ∧ 0 < dp ∧ (ck n r (dp - 1) false).1 = 0)) : ∃ a e, sg1 (seg f) dp o ts = some (a, e) ∧ e.length ≤ ts.length ∧ a.length ≤ (ts.length - e.length) * 20 ^ (5 - dp) ∧ ((e = [] ∧ dp = 0) ∨ ∃ v p r, e = (5, v, p) :: r ∧ 0 < dp ∧ (ck n r (dp - 1) false).1 = 0) := by
  cases ts with
  | nil => exact absurd rfl hn
  | cons x r =>
    obtain ⟨k, v, p⟩ := x
    obtain ⟨k5, k3⟩ := h5 k v p r rfl
    simp only [List.length_cons] at hl
    rw [ck_c] at h
    rw [if_neg k3] at h
    have hp : 20 ≤ 20 ^ (5 - dp) := by
      have := Nat.pow_le_pow_right (show 0 < 20 by omega) (show 1 ≤ 5 - dp by omega)
      omega
    by_cases k2 : k = 2
    · subst k2
      rw [if_neg (by omega), if_neg (by omega), if_pos rfl] at h
      obtain ⟨a, e, g1, g2, g3, g4⟩ := IH r dp hdp (by omega) h
      refine ⟨rep o [v] ++ a, e, ?_, by simp only [List.length_cons]; omega, ?_, g4⟩
      · show (if (2 : Nat) = 2 then sgA (rep o [v]) (seg f dp r) else if (2 : Nat) = 4 ∧ dp < 4 then sgG o (seg f dp) (seg f (dp + 1) r) else none) = _
        rw [if_pos rfl, g1]
        rfl
      · rw [List.length_append, rep_len]
        simp only [List.length_cons, List.length_nil]
        rw [show r.length + 1 - e.length = (r.length - e.length) + 1 by omega, Nat.succ_mul]
        omega
    · by_cases k4 : k = 4
      · subst k4
        rw [if_pos rfl] at h
        by_cases hd : dp < 4
        · rw [if_pos hd] at h
          obtain ⟨a, e, g1, g2, g3, g4⟩ := IH r (dp + 1) (by omega) (by omega) h
          rcases g4 with ⟨-, z⟩ | ⟨v', p', r', rfl, -, z⟩
          · omega
          · simp only [List.length_cons] at g2 g3
            obtain ⟨a2, e2, m1, m2, m3, m4⟩ := IH r' dp hdp (by omega) z
            refine ⟨rep o a ++ a2, e2, ?_, by simp only [List.length_cons]; omega, ?_, m4⟩
            · show (if (4 : Nat) = 2 then sgA (rep o [v]) (seg f dp r) else if (4 : Nat) = 4 ∧ dp < 4 then sgG o (seg f dp) (seg f (dp + 1) r) else none) = _
              rw [if_neg (by omega), if_pos ⟨rfl, hd⟩, g1]
              show (if (5 : Nat) = 5 then sgA (rep o a) (seg f dp r') else none) = _
              rw [if_pos rfl, m1]
              rfl
            · rw [List.length_append, rep_len]
              simp only [List.length_cons]
              have e5 : 20 ^ (5 - dp) = 20 * 20 ^ (5 - (dp + 1)) := by
                rw [show 5 - dp = (5 - (dp + 1)) + 1 by omega, Nat.pow_succ, Nat.mul_comm]
              have h1 : o * a.length ≤ (r.length - (r'.length + 1)) * 20 ^ (5 - dp) := by
                rw [e5, Nat.mul_left_comm]
                exact Nat.mul_le_mul ho g3
              have h2 : (r.length - (r'.length + 1)) * 20 ^ (5 - dp) + (r'.length - e2.length) * 20 ^ (5 - dp) ≤ (r.length + 1 - e2.length) * 20 ^ (5 - dp) := by
                rw [← Nat.add_mul]
                exact Nat.mul_le_mul_right _ (by omega)
              omega
        · rw [if_neg hd] at h
          cases h
      · rw [if_neg k4, if_neg k5, if_neg k2] at h
        cases h
theorem ck_seg {n : Nat} : ∀ (f : Nat) (ts : List tkT) (dp : Nat), dp ≤ 4 → ts.length < f → (ck n ts dp false).1 = 0 → ∃ a e, seg f dp ts = some (a, e) ∧ e.length ≤ ts.length ∧ a.length ≤ (ts.length - e.length) * 20 ^ (5 - dp) ∧ ((e = [] ∧ dp = 0) ∨ ∃ v p r, e = (5, v, p) :: r ∧ 0 < dp ∧ (ck n r (dp - 1) false).1 = 0)
  | 0, _, _, _, h, _ => absurd h (by omega)
  | f + 1, ts, dp, hdp, hl, h => by
    have IH := fun ts dp => ck_seg (n := n) f ts dp
    cases ts with
    | nil =>
      refine ⟨[], [], rfl, Nat.le_refl _, Nat.zero_le _, Or.inl ⟨rfl, ?_⟩⟩
      have h' : (if 0 < dp ∨ false = true then 1 else 0) = 0 := h
      by_cases q : 0 < dp
      · rw [if_pos (Or.inl q)] at h'
        cases h'
      · omega
    | cons x r =>
      obtain ⟨k, v, p⟩ := x
      simp only [List.length_cons] at hl
      by_cases k5 : k = 5
      · rw [ck_c] at h
        subst k5
        rw [if_neg (by omega), if_neg (by omega), if_pos rfl] at h
        by_cases q : 0 < dp ∧ false = false
        · rw [if_pos q] at h
          exact ⟨[], (5, v, p) :: r, rfl, Nat.le_refl _, Nat.zero_le _, Or.inr ⟨v, p, r, rfl, q.1, h⟩⟩
        · rw [if_neg q] at h
          cases h
      · by_cases k3 : k = 3
        · rw [ck_c] at h
          subst k3
          rw [if_pos rfl, if_neg (by decide)] at h
          by_cases q : 1 ≤ v ∧ v ≤ 20
          · rw [if_pos q] at h
            have h5 : (∀ k v p r', r = (k, v, p) :: r' → k ≠ 5 ∧ k ≠ 3) ∧ r ≠ [] := by
              cases r with
              | nil =>
                rw [ck_n, if_pos (Or.inr rfl)] at h
                cases h
              | cons y r' =>
                obtain ⟨k', v', p'⟩ := y
                refine ⟨fun k2 v2 p2 r2 hy => ?_, fun z => by cases z⟩
                cases hy
                rw [ck_c] at h
                refine ⟨fun z => ?_, fun z => ?_⟩
                · subst z
                  rw [if_neg (by omega), if_neg (by omega), if_pos rfl, if_neg (fun z => by cases z.2)] at h
                  cases h
                · subst z
                  rw [if_pos rfl, if_pos rfl] at h
                  cases h
            obtain ⟨a, e, g1, g2, g3, g4⟩ := ck1 (o := v) hdp q.2 (show r.length ≤ f by omega) h h5.1 h5.2 IH
            refine ⟨a, e, ?_, by simp only [List.length_cons]; omega, ?_, g4⟩
            · show (if (3 : Nat) = 5 then some ([], (3, v, p) :: r) else if (3 : Nat) = 3 then (if 1 ≤ v ∧ v ≤ 20 then sg1 (seg f) dp v r else none) else sg1 (seg f) dp 1 ((3, v, p) :: r)) = _
              rw [if_neg (by omega), if_pos rfl, if_pos q]
              exact g1
            · simp only [List.length_cons]
              exact Nat.le_trans g3 (Nat.mul_le_mul_right _ (by omega))
          · rw [if_neg q] at h
            cases h
        · obtain ⟨a, e, g1, g2, g3, g4⟩ := ck1 (o := 1) (ts := (k, v, p) :: r) (cn := false) hdp (by omega) (by simp only [List.length_cons]; omega) h (fun k' v' p' r' hy => by cases hy; exact ⟨k5, k3⟩) (fun z => by cases z) IH
          refine ⟨a, e, ?_, g2, g3, g4⟩
          show (if k = 5 then some ([], (k, v, p) :: r) else if k = 3 then (if 1 ≤ v ∧ v ≤ 20 then sg1 (seg f) dp v r else none) else sg1 (seg f) dp 1 ((k, v, p) :: r)) = _
          rw [if_neg k5, if_neg k3]
          exact g1
