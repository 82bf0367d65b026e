/-! tools for the rest of the calls -/
section TL
variable {C : mj_Cl} {own : Nat} {ini : Bool} {ret : Option FieldType} {K : mj_K} {Q : Option Value → mj_H → Prop}
/-- a loop: its head's state by the number of rounds -/
theorem mj_iter (S : Nat → mj_S) (n : Nat) (hb : ∀ k, k < n → mj_R C own ini ret K (S (k + 1)) Q → mj_R C own ini ret K (S k) Q) (he : mj_R C own ini ret K (S n) Q) : mj_R C own ini ret K (S 0) Q := by
  have h : ∀ j, j ≤ n → mj_R C own ini ret K (S (n - j)) Q := by
    intro j
    induction j with
    | zero => intro _; exact he
    | succ j ih =>
      intro hj
      have h2 := ih (by omega)
      rw [show n - j = n - (j + 1) + 1 by omega] at h2
      exact hb _ (by omega) h2
  have h3 := h n (Nat.le_refl n)
  rw [Nat.sub_self] at h3
  exact h3
/-- the same state under another name -/
theorem mj_sq {S S' : mj_S} (e : S = S') (k : mj_R C own ini ret K S' Q) : mj_R C own ini ret K S Q := by rw [e]; exact k
end TL
/-- sums of numbers -/
def sm (f : Nat → Int32) : Nat → Int32
  | 0 => nI 0
  | n + 1 => sm f n + f n
theorem sm_cong {f g : Nat → Int32} : ∀ {n : Nat}, (∀ k, k < n → f k = g k) → sm f n = sm g n
  | 0, _ => rfl
  | n + 1, h => by
    simp only [sm]
    rw [sm_cong (fun k hk => h k (by omega)), h n (by omega)]
/-- so many places written -/
def rf (f : fA) (a n : Nat) (x : Int32) : fA := fun q => if a ≤ q ∧ q < a + n then x else f q
theorem rf_0 (f : fA) (a : Nat) (x : Int32) : rf f a 0 x = f := by
  funext q
  exact if_neg (by omega)
theorem rf_s (f : fA) (a n : Nat) (x : Int32) : upd (rf f a n x) (a + n) x = rf f a (n + 1) x := by
  funext q
  show (if q = a + n then x else if a ≤ q ∧ q < a + n then x else f q) = (if a ≤ q ∧ q < a + (n + 1) then x else f q)
  by_cases e : q = a + n
  · rw [if_pos e, if_pos (by omega)]
  · rw [if_neg e]
    by_cases l : a ≤ q ∧ q < a + n
    · rw [if_pos l, if_pos (by omega)]
    · rw [if_neg l, if_neg (by omega)]
theorem i64_add {i n : Nat} (h1 : i < 2 ^ 31) (h2 : n < 2 ^ 31) : (nI i).toInt64 + (nI n).toInt64 = lN (i + n) := by
  rw [← Int64.toInt_inj, lg_i2l_add, nI_toInt h1, nI_toInt h2, pk_lT (by omega)]
  omega
theorem i64_le {i : Nat} (h1 : i < 2 ^ 31) : (nI i).toInt64 = lN i := nI_l h1
/-- a row of the board, as the program has it: what is at a side -/
theorem nv_has {b x : Nat} (hb : b < 22) (hx : x = 1023 ∨ x < bn b) : (¬ nv x < 0 ∧ ¬ nI (bn b) ≤ nv x) ↔ x ≠ 1023 := by
  have t0 := tb0 hb
  constructor
  · rintro h rfl
    exact h.1 (by rw [nv_no]; decide)
  · intro h
    rcases hx with q | q
    · exact absurd q h
    · rw [nv_is h]
      exact ⟨nI_pos (by omega), nI_ge q (by omega)⟩
theorem bd_at {b i j : Nat} {G : fG} (h : Bd b G) (hi : i < bn b) (hj : j < bp b) : gat G (i * 10 + j) = nv (tAt b i j) := h.at hi hj
theorem bd_ro {b i : Nat} {G : fG} (h : Bd b G) (hi : i < bn b) : gro G i = nI (tRo b i) := (h.2.2.2.1 i hi).1
theorem bd_fp {b i : Nat} {G : fG} (h : Bd b G) (hi : i < bn b) : gfp G i = nv (tFp b i) := (h.2.2.2.1 i hi).2.1
theorem bd_op {b i : Nat} {G : fG} (h : Bd b G) (hi : i < bn b) : gop G i = nv (tOp b i) := (h.2.2.2.1 i hi).2.2
theorem bd_rs {b j : Nat} {G : fG} (h : Bd b G) (hj : j ≤ br b + 1) : grs G j = nI (bRs b j) := h.2.2.2.2.1 j hj
theorem bd_cl {b : Nat} {G : fG} (h : Bd b G) : gcl G = nI (bn b) := h.2.2.1
theorem bd_sd {b : Nat} {G : fG} (h : Bd b G) : gsd G = nI (bp b) := h.1
theorem bd_rg {b : Nat} {G : fG} (h : Bd b G) : grg G = nI (br b) := h.2.1
theorem tAt_lt (b c s : Nat) : tAt b c s < 2 ^ 20 := Nat.lt_trans (dg_lt _ _) (by decide)
/-- an answer that both give -/
theorem Sim.of {d y1 y2 : Nat} {av : List Value} (k : ∀ P z, Rel P z → ∃ r P' z', mj_C d y1 (.ref 1 :: av) (fbP P (mdz z)) (some (.int r)) (fbP P' (mdz z)) ∧ mj_C d y2 (.ref 35 :: av) (fbP P' (mdz z)) (some (.int r)) (fbP P' (mdz z')) ∧ Rel P' z') : Sim d y1 y2 av := k
/-- a lane's narrowing -/
def nar (l x : Int32) : Int32 := if l = nI 0 then x.toInt8.toInt32 else if l = nI 1 then x.toInt16.toInt32 else x
theorem lane4 {x : Int32} (h : x = -(nI 1) ∨ x = nI 0 ∨ x = nI 1 ∨ x = nI 2) (n : x ≠ -(nI 1)) : 0 ≤ x := by
  rcases h with z | z | z | z
  · exact absurd z n
  · rw [z]; decide
  · rw [z]; decide
  · rw [z]; decide
