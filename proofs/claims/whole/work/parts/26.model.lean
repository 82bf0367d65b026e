/-! the model's cells (places 35 ..), behind the class's; its board has the class's numbers (its fifth row is unused here) -/
abbrev fL : Type := Nat → Int64
abbrev fP : Type := mj_E × (Int32 × Int32) × (fA × fA × fA) × fG × fY × fM × fT × fC × fV × (fA × Int32)
def fbP (P : fP) (Z : mj_H) : mj_H := fbH P.1 P.2.1 P.2.2.1 P.2.2.2.1 P.2.2.2.2.1 P.2.2.2.2.2.1 P.2.2.2.2.2.2.1 P.2.2.2.2.2.2.2.1 P.2.2.2.2.2.2.2.2.1 P.2.2.2.2.2.2.2.2.2 Z
abbrev fU : Type := Int32 × Int32
abbrev fW : Type := fA × fL × fA × fL × fL
abbrev fR : Type := (fA × fA × fA × fL) × (Int32 × Int32 × Int32 × Int32 × Int32 × Int32 × Int32)
def mdZ (U : fU) (s : fA × fA × fA) (g : fG) (w : fW) (m : fM) (t : fR) (c : fA × fA × fA) (v : fA × fA) (a : fA × Int32) : mj_H :=
  .inr (9, [.int U.1, .int U.2, .ref 36, .ref 37, .ref 38, .int (gsd g), .int (grg g), .int (gcl g), .ref 39, .ref 40, .ref 41, .ref 42, .ref 43, .ref 44, .ref 45, .ref 46, .ref 47, .ref 48, .int m.1, .int m.2.1, .int m.2.2.1, .int m.2.2.2, .ref 49, .int t.2.1, .int t.2.2.1, .int t.2.2.2.1, .int t.2.2.2.2.1, .int t.2.2.2.2.2.1, .int t.2.2.2.2.2.2.1, .int t.2.2.2.2.2.2.2, .ref 50, .ref 51, .ref 52, .ref 53, .ref 54, .ref 55, .ref 56, .ref 57, .ref 58, .int a.2]) ::
  .inl (0, 8, .inl s.1) :: .inl (0, 8, .inl s.2.1) :: .inl (0, 480, .inl s.2.2) ::
  .inl (0, 7, .inl (grs g)) :: .inl (0, 400, .inl (gro g)) :: .inl (0, 400, .inl (gfp g)) :: .inl (0, 400, .inl (gop g)) :: .inl (0, 4000, .inl (gat g)) ::
  .inl (0, 400, .inl w.1) :: .inl (3, 400, .inr w.2.1) :: .inl (0, 400, .inl w.2.2.1) :: .inl (3, 400, .inr w.2.2.2.1) :: .inl (3, 400, .inr w.2.2.2.2) ::
  .inl (0, 300, .inl t.1.1) :: .inl (0, 5, .inl t.1.2.1) :: .inl (0, 5, .inl t.1.2.2.1) :: .inl (3, 5, .inr t.1.2.2.2) ::
  .inl (0, 400, .inl c.1) :: .inl (0, 16, .inl c.2.1) :: .inl (0, 16, .inl c.2.2) :: .inl (2, 400, .inl v.1) :: .inl (2, 400, .inl v.2) :: .inl (0, 16, .inl a.1) :: []
set_option maxRecDepth 100000 in
theorem kB7_all : (kall 22 fun b => kall (bn b) (fun c => Nat.beq (tRo b c) 0 || (Nat.ble (br b) (tRo b c) || (Nat.ble (bRs b (tRo b c + 1)) (tFo b c) && (Nat.blt (tFo b c + (bp b - 4 - tPar b c)) (bRs b (tRo b c + 2)) && (kall (tFo b c + (bp b - 4 - tPar b c) - bRs b (tRo b c + 1)) fun i => !Nat.beq (tFp b (bRs b (tRo b c + 1) + i)) c || Nat.beq (tOp b (bRs b (tRo b c + 1) + i)) 1023)))))) = true := by decide +kernel
theorem tb7 {b c : Nat} (hb : b < 22) (hc : c < bn b) (h1 : tRo b c ≠ 0) (h2 : tRo b c < br b) : bRs b (tRo b c + 1) ≤ tFo b c ∧ tFo b c + (bp b - 4 - tPar b c) < bRs b (tRo b c + 2) ∧ ∀ k, bRs b (tRo b c + 1) ≤ k → k < tFo b c + (bp b - 4 - tPar b c) → tFp b k = c → tOp b k = 1023 := by
  have h := kall_ok (kall_ok kB7_all b hb) c hc
  simp only [Bool.and_eq_true, Bool.or_eq_true, Bool.not_eq_true'] at h
  rcases h with h | h | ⟨a1, a2, a3⟩
  · exact absurd (Nat.eq_of_beq_eq_true h) h1
  · have := Nat.le_of_ble_eq_true h
    omega
  · refine ⟨Nat.le_of_ble_eq_true a1, mj_blt a2, fun k k1 k2 k3 => ?_⟩
    have a := kall_ok a3 (k - bRs b (tRo b c + 1)) (by omega)
    rw [show bRs b (tRo b c + 1) + (k - bRs b (tRo b c + 1)) = k by omega, k3] at a
    simp only [Bool.or_eq_true, Bool.not_eq_true'] at a
    rcases a with q | q
    · have := Nat.beq_refl c
      rw [this] at q
      cases q
    · exact Nat.eq_of_beq_eq_true q
section MD
variable {P : fP} {U : fU} {s : fA × fA × fA} {g : fG} {w : fW} {m : fM} {t : fR} {c : fA × fA × fA} {v : fA × fA} {a : fA × Int32} {d : Nat}
theorem m_parents {x : Nat} (hx : x < 400) : mj_C (d + 1) nX9_parents [.ref 35, .int (nI x)] (fbP P (mdZ U s g w m t c v a)) (some (.int (nI (if gfp g x = NO then 0 else if gop g x = NO then 1 else 2)))) (fbP P (mdZ U s g w m t c v a)) := by
  have e2 : (nI x).toNatClampNeg = x := nI_clamp (by omega)
  refine mj_C.of rfl rfl rfl ?_
  refine mj_b1 40 rfl (nI_ix hx (by omega)) ?_
  rw [e2]
  refine mj_br (fun h1 => ?_) (fun h1 => ?_)
  · refine mj_b1 40 rfl (nI_ix hx (by omega)) ?_
    rw [e2]
    refine mj_br (fun h2 => ?_) (fun h2 => ?_)
    · refine mj_b0 40 rfl ?_
      exact mj_end rfl rfl trivial ⟨by rw [if_neg h1, if_neg h2]; rfl, rfl⟩
    · refine mj_b0 40 rfl ?_
      exact mj_end rfl rfl trivial ⟨by rw [if_neg h1, if_pos (Decidable.not_not.mp h2)]; rfl, rfl⟩
  · refine mj_b0 40 rfl ?_
    exact mj_end rfl rfl trivial ⟨by rw [if_pos (Decidable.not_not.mp h1)]; rfl, rfl⟩
theorem m_add {ro fp op rs at_ : fA} {fo : fO} {sd rg : Int32} {n : Nat} (hn : n < 400) (x y z : Int32) : mj_C (d + 1) nX9_add [.ref 35, .int x, .int y, .int z] (fbP P (mdZ U s (ro, fp, op, rs, fo, at_, sd, rg, nI n) w m t c v a)) none (fbP P (mdZ U s (upd ro n x, upd fp n y, upd op n z, rs, fo, at_, sd, rg, nI (n + 1)) w m t c v a)) := by
  have e2 : (nI n).toNatClampNeg = n := nI_clamp (by omega)
  have hi : vp_in (nI n) 400 := nI_ix hn (by omega)
  refine mj_C.of rfl rfl rfl ?_
  refine mj_b1 40 rfl ⟨⟨hi, hi⟩, hi⟩ ?_
  refine mj_end rfl rfl trivial ⟨rfl, ?_⟩
  exact Eq.trans (b := fbP P (mdZ U s (upd ro (nI n).toNatClampNeg x, upd fp (nI n).toNatClampNeg y, upd op (nI n).toNatClampNeg z, rs, fo, at_, sd, rg, nI n + nI 1) w m t c v a)) rfl (by rw [e2, nI_add])
theorem m_ringEnd {k : Nat} (hk : k < 6) : mj_C (d + 1) nX9_ringEnd [.ref 35, .int (nI k)] (fbP P (mdZ U s g w m t c v a)) (some (.int (grs g (k + 1)))) (fbP P (mdZ U s g w m t c v a)) := by
  have e5 : nI k + mj_kc 1 = nI (k + 1) := nI_add k 1
  have e4 : (nI (k + 1)).toNatClampNeg = k + 1 := nI_clamp (by omega)
  refine mj_C.of rfl rfl rfl ?_
  refine mj_b1 40 rfl (by show vp_in (nI k + mj_kc 1) 7; rw [e5]; exact nI_ix (by omega) (by omega)) ?_
  rw [e5, e4]
  exact mj_end rfl rfl trivial ⟨rfl, rfl⟩
/-- round: so many places further on -/
theorem m_round {x k f n z : Nat} (hx : x < 400) (hk : k < 6) (hro : gro g x = nI k) (hf : grs g k = nI f) (hn : grs g (k + 1) = nI (f + n)) (h0 : 0 < n) (hfx : f ≤ x) (hn4 : n ≤ 400) (hz4 : z < 2 ^ 30) {y : Int32} (hz : nI (x - f) + y + nI n = nI z) : mj_C (d + 2) nX9_round [.ref 35, .int (nI x), .int y] (fbP P (mdZ U s g w m t c v a)) (some (.int (nI (f + z % n)))) (fbP P (mdZ U s g w m t c v a)) := by
  have e1 : (nI x).toNatClampNeg = x := nI_clamp (by omega)
  have e2 : (nI k).toNatClampNeg = k := nI_clamp (by omega)
  refine mj_C.of rfl rfl rfl ?_
  refine mj_b1 6 rfl (nI_ix hx (by omega)) ?_
  rw [e1, hro]
  refine mj_b1 2 rfl (nI_ix (show k < 7 by omega) (by omega)) ?_
  rw [e2, hf]
  refine mj_b1 40 rfl (nI_ix hx (by omega)) ?_
  rw [e1, hro]
  have he := m_ringEnd (P := P) (U := U) (s := s) (g := g) (w := w) (m := m) (t := t) (c := c) (v := v) (a := a) (d := d) hk
  rw [hn] at he
  refine mj_cV rfl rfl rfl rfl rfl rfl he ?_
  have e3 : nI (f + n) - nI f = nI n := by rw [pk_sub (by omega), show f + n - f = n by omega]
  have e4 : nI x - nI f = nI (x - f) := pk_sub hfx
  refine mj_b0 3 rfl ?_
  rw [e3]
  refine mj_b1 40 rfl (nI_ne0 h0 (by omega)) ?_
  refine mj_end rfl rfl trivial ⟨?_, rfl⟩
  show some (Value.int (nI f + f_irem (nI x - nI f + y + nI n) (nI n))) = _
  rw [e4, hz, show f_irem (nI z) (nI n) = nI (z % n) from pk_rem (by omega) h0 (by omega), nI_add]
theorem l_last {b x k : Nat} (hb : b < 22) (hx : x < bn b) (hk : tRo b x + 1 = k) (h0 : tRo b x ≠ 0) (hr : tRo b x < br b) (hP : Pb b (bn b) (br b + 1) 1 g) : ∀ (j i : Nat), j + i = tFo b x + (bp b - 4 - tPar b x) → bRs b k ≤ i → mj_R (mj_C (d + 1)) 9 false (some .int) iX9_lastChild (16, [some (.ref 35), some (.int (nI x)), some (.int (nI k)), some (.int (nI i))], [], fbP P (mdZ U s g w m t c v a)) (fun r h => r = some (.int (nI (tFo b x + (bp b - 4 - tPar b x)))) ∧ h = fbP P (mdZ U s g w m t c v a))
  | j, i, hj, hi => by
    have t0 := tb0 hb
    have t4 := tb4 hb hx h0 hr
    have t7 := tb7 hb hx h0 hr
    have hib : i < bn b := by omega
    have e1 : (nI i).toNatClampNeg = i := nI_clamp (by omega)
    have he := m_ringEnd (P := P) (U := U) (s := s) (g := g) (w := w) (m := m) (t := t) (c := c) (v := v) (a := a) (d := d) (show k < 6 by omega)
    rw [hP.2.2.2.2.1 (k + 1) (by omega)] at he
    have t2 := tb_rs' hb (show k + 1 ≤ br b + 1 by omega)
    have hlt : i < bRs b (k + 1) := by
      have q := t7.2.1
      rw [show tRo b x + 2 = k + 1 by omega] at q
      omega
    obtain ⟨-, hp1, hp2⟩ := hP.2.2.2.1 i hib
    refine mj_b0 40 rfl ?_
    refine mj_cV rfl rfl rfl rfl rfl rfl he ?_
    refine mj_b0 40 rfl ?_
    refine mj_brf (nI_ge hlt (by omega)) ?_
    refine mj_b1 40 rfl (nI_ix (show i < 400 by omega) (by omega)) ?_
    rw [e1]
    have step : mj_R (mj_C (d + 1)) 9 false (some .int) iX9_lastChild (48, [some (.ref 35), some (.int (nI x)), some (.int (nI k)), some (.int (nI i))], [], fbP P (mdZ U s g w m t c v a)) (fun r h => r = some (.int (nI (tFo b x + (bp b - 4 - tPar b x)))) ∧ h = fbP P (mdZ U s g w m t c v a)) ∨ j = 0 := by
      match j, hj with
      | 0, _ => exact Or.inr rfl
      | j + 1, hj =>
        refine Or.inl (mj_b0 2 rfl ?_)
        have ih := l_last hb hx hk h0 hr hP j (i + 1) (by omega) (by omega)
        rw [← nI_add i 1] at ih
        exact ih
    by_cases q1 : tFp b i = x
    · refine mj_brf (by rw [hp1, q1, nv_is (show x ≠ 1023 by omega)]; exact fun z => z rfl) ?_
      refine mj_b1 40 rfl (nI_ix (show i < 400 by omega) (by omega)) ?_
      rw [e1]
      by_cases q2 : tOp b i = 1023
      · refine mj_brt (by rw [hp2, q2]; rfl) ?_
        rcases step with st | st
        · exact st
        · exfalso
          rw [show i = tFo b x + (bp b - 4 - tPar b x) by omega, t4.2.2.2.2.1] at q2
          have := tb1 hb hx
          unfold tBeh at q2
          have := tb_rs' hb (show tRo b x ≤ br b + 1 by omega)
          split at q2 <;> omega
      · refine mj_brf (by rw [hp2]; exact fun z => q2 ((nv_NO (tOp_lt b i)).mp z)) ?_
        refine mj_b0 40 rfl ?_
        have hi2 : i = tFo b x + (bp b - 4 - tPar b x) := by
          rcases Nat.lt_or_ge i (tFo b x + (bp b - 4 - tPar b x)) with z | z
          · exact absurd (t7.2.2 i (by rw [hk]; exact hi) z q1) q2
          · omega
        exact mj_end rfl rfl trivial ⟨by rw [hi2], rfl⟩
    · refine mj_brt (by
        rw [hp1]
        intro z
        by_cases q3 : tFp b i = 1023
        · rw [q3] at z
          exact nI_ne_NO (show x < 2 ^ 20 by omega) z.symm
        · rw [nv_is q3] at z
          exact q1 ((nI_eq (Nat.lt_trans (dg_lt _ _) (by decide)) (by omega)).mp z)) ?_
      rcases step with st | st
      · exact st
      · exfalso
        rw [show i = tFo b x + (bp b - 4 - tPar b x) by omega] at q1
        exact q1 t4.2.2.2.1
  termination_by j => j
theorem m_last {b x : Nat} (hb : b < 22) (hx : x < bn b) (h0 : tRo b x ≠ 0) (hr : tRo b x < br b) (hP : Pb b (bn b) (br b + 1) 1 g) : mj_C (d + 2) nX9_lastChild [.ref 35, .int (nI x)] (fbP P (mdZ U s g w m t c v a)) (some (.int (nI (tFo b x + (bp b - 4 - tPar b x))))) (fbP P (mdZ U s g w m t c v a)) := by
  have t0 := tb0 hb
  have t7 := tb7 hb hx h0 hr
  have e1 : (nI x).toNatClampNeg = x := nI_clamp (by omega)
  have e2 : nI (tRo b x) + mj_kc 1 = nI (tRo b x + 1) := nI_add _ 1
  have e3 : (nI (tRo b x + 1)).toNatClampNeg = tRo b x + 1 := nI_clamp (by omega)
  refine mj_C.of rfl rfl rfl ?_
  refine mj_b1 4 rfl (nI_ix (show x < 400 by omega) (by omega)) ?_
  rw [e1, (hP.2.2.2.1 x hx).1]
  refine mj_b0 3 rfl ?_
  rw [e2]
  refine mj_b1 5 rfl (nI_ix (show tRo b x + 1 < 7 by omega) (by omega)) ?_
  rw [e3, hP.2.2.2.2.1 _ (by omega)]
  exact l_last hb hx rfl h0 hr hP (tFo b x + (bp b - 4 - tPar b x) - bRs b (tRo b x + 1)) (bRs b (tRo b x + 1)) (by omega) (Nat.le_refl _)
end MD
