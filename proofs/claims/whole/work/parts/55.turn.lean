/-! promises 28 and 30, side by side -/
section TL2
variable {C : mj_Cl} {own : Nat} {ini : Bool} {ret : Option FieldType} {K : mj_K} {Q : Option Value → mj_H → Prop}
/-- a loop with locals that don't matter -/
theorem mj_itJ {α : Type} (S : Nat → α → mj_S) (n : Nat) (hb : ∀ k x, k < n → (∀ y, mj_R C own ini ret K (S (k + 1) y) Q) → mj_R C own ini ret K (S k x) Q) (he : ∀ x, mj_R C own ini ret K (S n x) Q) (x : α) : mj_R C own ini ret K (S 0 x) Q := by
  have h : ∀ j, j ≤ n → ∀ x, mj_R C own ini ret K (S (n - j) x) Q := by
    intro j
    induction j with
    | zero => intro _; exact he
    | succ j ih =>
      intro hj x
      have h2 := ih (by omega)
      rw [show n - j = n - (j + 1) + 1 by omega] at h2
      exact hb _ x (by omega) h2
  have h3 := h n (Nat.le_refl n) x
  rw [Nat.sub_self] at h3
  exact h3
end TL2
/-- a Boolean as the program has it -/
def bI (x : Bool) : Int32 := cond x (nI 1) (nI 0)
/-- how many cells a ring has; a cell turned -/
def tSz (b k : Nat) : Nat := bRs b (k + 1) - bRs b k
def tTn (b c t : Nat) : Nat := if c = 0 then 0 else bRs b (tRo b c) + (c - bRs b (tRo b c) + t * (tSz b (tRo b c) / bp b)) % tSz b (tRo b c)
theorem t_part {t n p : Nat} (h : t < p) : t * (n / p) ≤ n := Nat.le_trans (Nat.mul_le_mul_right _ (Nat.le_of_lt h)) (Nat.mul_div_le n p)
theorem tTn_lt {b c t : Nat} (hb : b < 22) (hc : c < bn b) : tTn b c t < bn b := by
  unfold tTn
  have t0 := tb0 hb
  have t1 := tb1 hb hc
  split
  · omega
  · have h := tb_rs' hb (show tRo b c + 1 ≤ br b + 1 by omega)
    have h2 := t0.2.2.2.2.2.2.2 (tRo b c) (by omega)
    have h3 : (c - bRs b (tRo b c) + t * (tSz b (tRo b c) / bp b)) % tSz b (tRo b c) < tSz b (tRo b c) := Nat.mod_lt _ (by unfold tSz; omega)
    have h4 : tSz b (tRo b c) = bRs b (tRo b c + 1) - bRs b (tRo b c) := rfl
    omega
section TU
variable {sc : mj_E} {F : Int32 × Int32} {S : fA × fA × fA} {G : fG} {Y : fY} {M : fM} {T : fT} {C : fC} {V : fV} {A : fA × Int32} {Z : mj_H} {d : Nat}
theorem c_sizeOf {b k : Nat} (hb : b < 22) (h : Bd b G) (hk : k ≤ br b) : mj_C (d + 1) nX2_sizeOf [.ref 6, .int (nI k)] (fbH sc F S G Y M T C V A Z) (some (.int (nI (tSz b k)))) (fbH sc F S G Y M T C V A Z) := by
  have t0 := tb0 hb
  have h2 := t0.2.2.2.2.2.2.2 k hk
  have e5 : nI k + mj_kc 1 = nI (k + 1) := nI_add k 1
  have e4 : (nI (k + 1)).toNatClampNeg = k + 1 := nI_clamp (by omega)
  have e3 : (nI k).toNatClampNeg = k := nI_clamp (by omega)
  refine mj_C.of rfl rfl rfl ?_
  refine mj_b1 40 rfl (by
    show vp_in (nI k + mj_kc 1) 7 ∧ vp_in (nI k) 7
    rw [e5]
    exact ⟨nI_ix (by omega) (by omega), nI_ix (by omega) (by omega)⟩) ?_
  rw [e5, e4, e3, bd_rs h (by omega), bd_rs h (by omega)]
  exact mj_end rfl rfl trivial ⟨by rw [pk_sub (by omega)]; rfl, rfl⟩
theorem c_partOf {b k : Nat} (hb : b < 22) (h : Bd b G) (hk : k ≤ br b) : mj_C (d + 2) nX2_partOf [.ref 6, .int (nI k)] (fbH sc F S G Y M T C V A Z) (some (.int (nI (tSz b k / bp b)))) (fbH sc F S G Y M T C V A Z) := by
  have t0 := tb0 hb
  have h3 := tb_rs' hb (show k + 1 ≤ br b + 1 by omega)
  refine mj_C.of rfl rfl rfl ?_
  refine mj_b0 40 rfl ?_
  refine mj_brt (by rw [bd_sd h]; exact (show nI 1 ≤ nI (bp b) from nI_le (by omega) (by omega))) ?_
  refine mj_b0 40 rfl ?_
  refine mj_cV rfl rfl rfl rfl rfl rfl (c_sizeOf hb h hk) ?_
  refine mj_b1 40 rfl (by rw [bd_sd h]; exact nI_ne0 (by omega) (by omega)) ?_
  rw [bd_sd h]
  exact mj_end rfl rfl trivial ⟨by rw [pk_div (by unfold tSz; omega) (by omega) (by omega)], rfl⟩
theorem c_turn {b c t : Nat} (hb : b < 22) (h : Bd b G) (hc : c < bn b) (ht : t < bp b) : mj_C (d + 3) nX2_turn [.ref 6, .int (nI c), .int (nI t)] (fbH sc F S G Y M T C V A Z) (some (.int (nI (tTn b c t)))) (fbH sc F S G Y M T C V A Z) := by
  have t0 := tb0 hb
  have t1 := tb1 hb hc
  have h2 := t0.2.2.2.2.2.2.2 (tRo b c) t1.1
  have h3 := tb_rs' hb (show tRo b c + 1 ≤ br b + 1 by omega)
  have e1 : (nI c).toNatClampNeg = c := nI_clamp (by omega)
  have e2 : (nI (tRo b c)).toNatClampNeg = tRo b c := nI_clamp (by omega)
  refine mj_C.of rfl rfl rfl ?_
  refine mj_b1 4 rfl (nI_ix (show c < 400 by omega) (by omega)) ?_
  rw [e1, bd_ro h hc]
  refine mj_b0 40 rfl ?_
  by_cases q : c = 0
  · subst q
    refine mj_brf (by rw [(tRo0 hb hc).mpr rfl]; exact fun z => z rfl) ?_
    refine mj_b0 40 rfl ?_
    exact mj_end rfl rfl trivial ⟨rfl, rfl⟩
  · have q2 : tRo b c ≠ 0 := fun z => q ((tRo0 hb hc).mp z)
    have h5 : t * (tSz b (tRo b c) / bp b) ≤ tSz b (tRo b c) := t_part ht
    have h6 : tSz b (tRo b c) = bRs b (tRo b c + 1) - bRs b (tRo b c) := rfl
    refine mj_brt (nI_ne0 (by omega) (by omega)) ?_
    refine mj_b0 40 rfl ?_
    refine mj_cV rfl rfl rfl rfl rfl rfl (c_placeOf hb h hc) ?_
    refine mj_b0 40 rfl ?_
    refine mj_cV rfl rfl rfl rfl rfl rfl (c_partOf hb h t1.1) ?_
    rw [pk_sub t1.2.1]
    refine mj_b0 3 rfl ?_
    rw [pk_mul, nI_add]
    refine mj_b0 40 rfl ?_
    refine mj_cV rfl rfl rfl rfl rfl rfl (c_sizeOf hb h t1.1) ?_
    refine mj_b1 40 rfl (nI_ix (show tRo b c < 7 by omega) (by omega)) ?_
    rw [e2, bd_rs h (by omega)]
    have e7 : tTn b c t = bRs b (tRo b c) + (c - bRs b (tRo b c) + t * (tSz b (tRo b c) / bp b)) % tSz b (tRo b c) := if_neg q
    by_cases q3 : c - bRs b (tRo b c) + t * (tSz b (tRo b c) / bp b) < tSz b (tRo b c)
    · refine mj_brt (nI_lt q3 (by omega)) ?_
      refine mj_b0 40 rfl ?_
      exact mj_end rfl rfl trivial ⟨by rw [nI_add, e7, Nat.mod_eq_of_lt q3], rfl⟩
    · refine mj_brf (nI_nlt (by omega) (by omega)) ?_
      refine mj_b0 40 rfl ?_
      exact mj_end rfl rfl trivial ⟨by rw [pk_sub (by omega), nI_add, e7, Nat.mod_eq_sub_mod (by omega), Nat.mod_eq_of_lt (by omega)], rfl⟩
theorem c_isTurn {b : Nat} (h : Bd b G) (x : Int32) : mj_C (d + 1) nX8_isTurn [.ref 1, .int x] (fbH sc F S G Y M T C V A Z) (some (.int (vB (¬ x < 0 ∧ ¬ nI (bp b) ≤ x)))) (fbH sc F S G Y M T C V A Z) := by
  rw [← bd_sd h]
  refine mj_C.of rfl rfl rfl ?_
  refine mj_b0 40 rfl ?_
  refine mj_br (fun h1 => ?_) (fun h1 => ?_)
  · refine mj_b0 40 rfl ?_
    exact mj_end rfl rfl (Or.inl rfl) ⟨by rw [vB_f (fun q => q.1 h1)]; rfl, rfl⟩
  · refine mj_b0 40 rfl ?_
    refine mj_br (fun h2 => ?_) (fun h2 => ?_)
    · refine mj_b0 40 rfl ?_
      exact mj_end rfl rfl (Or.inl rfl) ⟨by rw [vB_f (fun q => q.2 h2)]; rfl, rfl⟩
    · refine mj_b0 40 rfl ?_
      exact mj_end rfl rfl (Or.inr rfl) ⟨by rw [vB_t ⟨h1, h2⟩]; rfl, rfl⟩
theorem c_hasRing {b : Nat} (h : Bd b G) (x : Int32) : mj_C (d + 1) nX2_hasRing [.ref 6, .int x] (fbH sc F S G Y M T C V A Z) (some (.int (vB (¬ x < 0 ∧ ¬ nI (br b) < x)))) (fbH sc F S G Y M T C V A Z) := by
  rw [← bd_rg h]
  refine mj_C.of rfl rfl rfl ?_
  refine mj_b0 40 rfl ?_
  refine mj_br (fun h1 => ?_) (fun h1 => ?_)
  · refine mj_b0 40 rfl ?_
    exact mj_end rfl rfl (Or.inl rfl) ⟨by rw [vB_f (fun q => q.1 h1)]; rfl, rfl⟩
  · refine mj_b0 40 rfl ?_
    refine mj_br (fun h2 => ?_) (fun h2 => ?_)
    · refine mj_b0 40 rfl ?_
      exact mj_end rfl rfl (Or.inl rfl) ⟨by rw [vB_f (fun q => q.2 h2)]; rfl, rfl⟩
    · refine mj_b0 40 rfl ?_
      exact mj_end rfl rfl (Or.inr rfl) ⟨by rw [vB_t ⟨h1, h2⟩]; rfl, rfl⟩
end TU
section TUm
variable {P : fP} {U : fU} {s : fA × fA × fA} {g : fG} {w : fW} {m : fM} {t : fR} {c : fA × fA × fA} {v : fA × fA} {a : fA × Int32} {d : Nat}
theorem m_turnedOf {b x y : Nat} (hb : b < 22) (h : Bd b g) (hx : x < bn b) (hy : y < bp b) : mj_C (d + 3) nX9_turnedOf [.ref 35, .int (nI x), .int (nI y)] (fbP P (mdZ U s g w m t c v a)) (some (.int (nI (tTn b x y)))) (fbP P (mdZ U s g w m t c v a)) := by
  have t0 := tb0 hb
  have t1 := tb1 hb hx
  have h2 := t0.2.2.2.2.2.2.2 (tRo b x) t1.1
  have h3 := tb_rs' hb (show tRo b x + 1 ≤ br b + 1 by omega)
  have e1 : (nI x).toNatClampNeg = x := nI_clamp (by omega)
  have e2 : (nI (tRo b x)).toNatClampNeg = tRo b x := nI_clamp (by omega)
  refine mj_C.of rfl rfl rfl ?_
  refine mj_b0 40 rfl ?_
  by_cases q : x = 0
  · subst q
    refine mj_brf (show ¬ ¬ nI 0 = 0 by decide) ?_
    refine mj_b0 40 rfl ?_
    exact mj_end rfl rfl trivial ⟨rfl, rfl⟩
  · have h5 : y * (tSz b (tRo b x) / bp b) ≤ tSz b (tRo b x) := t_part hy
    have h6 : tSz b (tRo b x) = bRs b (tRo b x + 1) - bRs b (tRo b x) := rfl
    refine mj_brt (nI_ne0 (by omega) (by omega)) ?_
    refine mj_b1 40 rfl (nI_ix (show x < 400 by omega) (by omega)) ?_
    rw [e1, bd_ro h hx]
    have he := m_ringEnd (P := P) (U := U) (s := s) (g := g) (w := w) (m := m) (t := t) (c := c) (v := v) (a := a) (d := d + 1) (show tRo b x < 6 by omega)
    rw [bd_rs h (by omega)] at he
    refine mj_cV rfl rfl rfl rfl rfl rfl (he) ?_
    refine mj_b1 6 rfl (nI_ix (show x < 400 by omega) (by omega)) ?_
    rw [e1, bd_ro h hx]
    refine mj_b1 2 rfl (nI_ix (show tRo b x < 7 by omega) (by omega)) ?_
    rw [e2, bd_rs h (by omega), pk_sub (by omega)]
    refine mj_b1 40 rfl (by rw [bd_sd h]; exact nI_ne0 (by omega) (by omega)) ?_
    rw [bd_sd h]
    rw [show nI (bRs b (tRo b x + 1) - bRs b (tRo b x)) / nI (bp b) = nI (tSz b (tRo b x) / bp b) from pk_div (by omega) (by omega) (by omega), pk_mul]
    have hr := m_round (P := P) (U := U) (s := s) (g := g) (w := w) (m := m) (t := t) (c := c) (v := v) (a := a) (d := d) (x := x) (k := tRo b x) (f := bRs b (tRo b x)) (n := tSz b (tRo b x)) (z := x - bRs b (tRo b x) + y * (tSz b (tRo b x) / bp b) + tSz b (tRo b x)) (y := nI (y * (tSz b (tRo b x) / bp b))) (by omega) (by omega) (bd_ro h hx) (bd_rs h (by omega)) (by rw [bd_rs h (by omega), show bRs b (tRo b x) + tSz b (tRo b x) = bRs b (tRo b x + 1) by omega]) (by omega) t1.2.1 (by omega) (by omega) (by rw [nI_add, nI_add])
    refine mj_cV rfl rfl rfl rfl rfl rfl (hr) ?_
    exact mj_end rfl rfl trivial ⟨by rw [Nat.add_mod_right, show tTn b x y = bRs b (tRo b x) + (x - bRs b (tRo b x) + y * (tSz b (tRo b x) / bp b)) % tSz b (tRo b x) from if_neg q], rfl⟩
end TUm
section TUS
variable {d : Nat}
theorem okp {b j : Nat} (hb : b < 22) (h : j < bp b) : ¬ nI j < 0 ∧ ¬ nI (bp b) ≤ nI j := by
  have t0 := tb0 hb
  exact ⟨nI_pos (by omega), nI_ge h (by omega)⟩
theorem ixp {b : Nat} (hb : b < 22) (x : Int32) : (¬ (¬ x < 0 ∧ ¬ nI (bp b) ≤ x)) ∨ ∃ j : Nat, j < bp b ∧ x = nI j := by
  have t0 := tb0 hb
  rcases pk_ix x (n := bp b) (by omega) with q | q | q
  · exact Or.inl (fun z => z.1 q)
  · exact Or.inl (fun z => z.2 q)
  · exact Or.inr q
/-- promise 28 -/
theorem s_turned (x y : Int32) : Sim (d + 4) nX8_turned nX9_turned [.int x, .int y] := by
  refine Sim.board0 (fun b hb => ?_)
  by_cases q : (¬ x < 0 ∧ ¬ nI (bn b) ≤ x) ∧ (¬ y < 0 ∧ ¬ nI (bp b) ≤ y)
  · rcases ixb hb x with z | ⟨j, hj, rfl⟩
    · exact absurd q.1 z
    rcases ixp hb y with z | ⟨k, hk, rfl⟩
    · exact absurd q.2 z
    refine ⟨nI (tTn b j k), fun sc F S G Y M T C V A Z h => ?_, fun P U s g w m t c v a h => ?_⟩
    · refine mj_C.of rfl rfl rfl ?_
      refine mj_b0 40 rfl ?_
      refine mj_cV rfl rfl rfl rfl rfl rfl (x_has h (nI j)) ?_
      refine mj_b0 40 rfl ?_
      refine mj_brf (fun z => vB_0.mp z (okb hb hj)) ?_
      refine mj_b0 40 rfl ?_
      refine mj_cV rfl rfl rfl rfl rfl rfl (c_isTurn h (nI k)) ?_
      refine mj_b0 40 rfl ?_
      refine mj_brt (fun z => vB_0.mp z (okp hb hk)) ?_
      refine mj_b0 40 rfl ?_
      refine mj_cV rfl rfl rfl rfl rfl rfl (c_turn hb h hj hk) ?_
      exact mj_end rfl rfl trivial ⟨rfl, rfl⟩
    · refine mj_C.of rfl rfl rfl ?_
      refine mj_b0 40 rfl ?_
      refine mj_hq (h' := (fbP P (mdZ (nI 0, U.2) s g w m t c v a))) rfl ?_
      refine mj_cV rfl rfl rfl rfl rfl rfl (xm_isCell hb h (nI j)) ?_
      refine mj_b0 40 rfl ?_
      refine mj_brf (fun z => vB_0.mp z (okb hb hj)) ?_
      refine mj_b0 40 rfl ?_
      refine mj_cV rfl rfl rfl rfl rfl rfl (xm_isSide hb h (nI k)) ?_
      refine mj_b0 40 rfl ?_
      refine mj_brt (fun z => vB_0.mp z (okp hb hk)) ?_
      refine mj_b0 40 rfl ?_
      refine mj_cV rfl rfl rfl rfl rfl rfl (m_turnedOf hb h hj hk) ?_
      exact mj_end rfl rfl trivial ⟨rfl, rfl⟩
  · refine ⟨BD, fun sc F S G Y M T C V A Z h => ?_, fun P U s g w m t c v a h => ?_⟩
    · refine mj_C.of rfl rfl rfl ?_
      refine mj_b0 40 rfl ?_
      refine mj_cV rfl rfl rfl rfl rfl rfl (x_has h x) ?_
      refine mj_b0 40 rfl ?_
      by_cases q1 : (¬ x < 0 ∧ ¬ nI (bn b) ≤ x)
      · refine mj_brf (fun z => vB_0.mp z q1) ?_
        refine mj_b0 40 rfl ?_
        refine mj_cV rfl rfl rfl rfl rfl rfl (c_isTurn h y) ?_
        refine mj_b0 40 rfl ?_
        refine mj_brf (fun z => z (vB_0.mpr (fun q2 => q ⟨q1, q2⟩))) ?_
        refine mj_b0 40 rfl ?_
        exact mj_end rfl rfl trivial ⟨rfl, rfl⟩
      · refine mj_brt (vB_0.mpr q1) ?_
        refine mj_b0 40 rfl ?_
        exact mj_end rfl rfl trivial ⟨rfl, rfl⟩
    · refine mj_C.of rfl rfl rfl ?_
      refine mj_b0 40 rfl ?_
      refine mj_hq (h' := (fbP P (mdZ (nI 0, U.2) s g w m t c v a))) rfl ?_
      refine mj_cV rfl rfl rfl rfl rfl rfl (xm_isCell hb h x) ?_
      refine mj_b0 40 rfl ?_
      by_cases q1 : (¬ x < 0 ∧ ¬ nI (bn b) ≤ x)
      · refine mj_brf (fun z => vB_0.mp z q1) ?_
        refine mj_b0 40 rfl ?_
        refine mj_cV rfl rfl rfl rfl rfl rfl (xm_isSide hb h y) ?_
        refine mj_b0 40 rfl ?_
        refine mj_brf (fun z => z (vB_0.mpr (fun q2 => q ⟨q1, q2⟩))) ?_
        refine mj_b0 40 rfl ?_
        exact mj_end rfl rfl trivial ⟨rfl, rfl⟩
      · refine mj_brt (vB_0.mpr q1) ?_
        refine mj_b0 40 rfl ?_
        exact mj_end rfl rfl trivial ⟨rfl, rfl⟩
end TUS
