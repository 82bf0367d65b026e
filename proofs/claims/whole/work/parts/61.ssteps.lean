/-! promise 26, side by side: the model, and both -/
theorem nar_b {x : Int32} (h : x = nI 0 ∨ x = nI 1) : vp_nar .boolean x = x := by
  rcases h with rfl | rfl <;> rfl
section SPm
variable {P : fP} {U : fU} {s : fA × fA × fA} {g : fG} {w : fW} {m : fM} {t : fR} {c : fA × fA × fA} {a : fA × Int32} {d : Nat}
/-- the second loop: what is next is what lives -/
theorem lm_then {b i n : Nat} {bo sy : Int32} {v x : fA} {Q : Option Value → mj_H → Prop} (hb : b < 22) (h : Bd b g) (hv : ∀ q, q < bn b → x q = nI 0 ∨ x q = nI 1) (o6 o7 o8 : Option Value) (k : mj_R (mj_C (d + 2)) 9 false (some .int) iX9_steps (202, [some (.ref 35), some (.int bo), some (.int sy), some (.int (nI n)), some (.int (nI i)), some (.int (nI (bn b))), o6, o7, o8], [], fbP P (mdZ U s g w m t c (pf x v (bn b), x) a)) Q) : mj_R (mj_C (d + 2)) 9 false (some .int) iX9_steps (173, [some (.ref 35), some (.int bo), some (.int sy), some (.int (nI n)), some (.int (nI i)), some (.int (nI 0)), o6, o7, o8], [], fbP P (mdZ U s g w m t c (v, x) a)) Q := by
  have t0 := tb0 hb
  refine mj_hq (h' := fbP P (mdZ U s g w m t c (pf x v 0, x) a)) (by rw [pf_0]) ?_
  refine mj_iter (fun j => (173, [some (.ref 35), some (.int bo), some (.int sy), some (.int (nI n)), some (.int (nI i)), some (.int (nI j)), o6, o7, o8], [], fbP P (mdZ U s g w m t c (pf x v j, x) a))) (bn b) (fun j hj ih => ?_) ?_
  · have e1 : (nI j).toNatClampNeg = j := nI_clamp (by omega)
    have hi : vp_in (nI j) 400 := nI_ix (show j < 400 by omega) (by omega)
    rw [← nI_add j 1] at ih
    refine mj_b0 40 rfl ?_
    refine mj_brf (by rw [bd_cl h]; exact nI_ge hj (by omega)) ?_
    refine mj_b1 8 rfl (⟨hi, hi⟩) ?_
    refine mj_hq (h' := fbP P (mdZ U s g w m t c (pf x v (j + 1), x) a)) (Eq.trans (b := fbP P (mdZ U s g w m t c (upd (pf x v j) (nI j).toNatClampNeg (vp_nar .boolean (x (nI j).toNatClampNeg)), x) a)) rfl (by rw [e1, nar_b (hv j hj), pf_s])) ?_
    refine mj_b0 2 rfl ?_
    exact ih
  · refine mj_b0 40 rfl ?_
    refine mj_brt (by rw [bd_cl h]; exact nI_le (by omega) (by omega)) ?_
    exact k
/-- the first loop: what is next, cell by cell -/
theorem lm_next {b i n : Nat} {bo sy : Int32} {v x : fA} {Q : Option Value → mj_H → Prop} (hb : b < 22) (h : Bd b g) (hv : ∀ q, q < bn b → v q = nI 0 ∨ v q = nI 1) (o6 o7 o8 : Option Value) (k : ∀ o6 o7 o8 : Option Value, mj_R (mj_C (d + 2)) 9 false (some .int) iX9_steps (170, [some (.ref 35), some (.int bo), some (.int sy), some (.int (nI n)), some (.int (nI i)), some (.int (nI (bn b))), o6, o7, o8], [], fbP P (mdZ U s g w m t c (v, pf (nx b bo sy v) x (bn b)) a)) Q) : mj_R (mj_C (d + 2)) 9 false (some .int) iX9_steps (56, [some (.ref 35), some (.int bo), some (.int sy), some (.int (nI n)), some (.int (nI i)), some (.int (nI 0)), o6, o7, o8], [], fbP P (mdZ U s g w m t c (v, x) a)) Q := by
  have t0 := tb0 hb
  refine mj_hq (h' := fbP P (mdZ U s g w m t c (v, pf (nx b bo sy v) x 0) a)) (by rw [pf_0]) ?_
  refine mj_itJ (fun j (o : Option Value × Option Value × Option Value) => (56, [some (.ref 35), some (.int bo), some (.int sy), some (.int (nI n)), some (.int (nI i)), some (.int (nI j)), o.1, o.2.1, o.2.2], [], fbP P (mdZ U s g w m t c (v, pf (nx b bo sy v) x j) a))) (bn b) (fun j o hj ih => ?_) (fun o => ?_) (o6, o7, o8)
  · have t1 := tb1 hb hj
    have e1 : (nI j).toNatClampNeg = j := nI_clamp (by omega)
    have hi : vp_in (nI j) 400 := nI_ix (show j < 400 by omega) (by omega)
    refine mj_b0 40 rfl ?_
    refine mj_brf (by rw [bd_cl h]; exact nI_ge hj (by omega)) ?_
    refine mj_b0 4 rfl ?_
    refine mj_itJ (fun q (o : Option Value) => (71, [some (.ref 35), some (.int bo), some (.int sy), some (.int (nI n)), some (.int (nI i)), some (.int (nI j)), some (.int (nbS b v j q)), some (.int (nI q)), o], [], fbP P (mdZ U s g w m t c (v, pf (nx b bo sy v) x j) a))) (bp b) (fun q o hq iq => ?_) (fun o => ?_) o.2.2
    · have iq := iq (some (.int (nv (tAt b j q))))
      rw [← nI_add q 1] at iq
      simp only [nbS, sm] at iq
      have e3 : nI 10 * nI j + nI q = nI (j * 10 + q) := by rw [pk_mul, nI_add, Nat.mul_comm]
      have e4 : (nI (j * 10 + q)).toNatClampNeg = j * 10 + q := nI_clamp (by omega)
      refine mj_b0 40 rfl ?_
      refine mj_brf (by rw [bd_sd h]; exact nI_ge hq (by omega)) ?_
      refine mj_b1 8 rfl (by show vp_in (nI 10 * nI j + nI q) 4000; rw [e3]; exact nI_ix (by omega) (by omega)) ?_
      refine mj_sq (S' := (93, [some (.ref 35), some (.int bo), some (.int sy), some (.int (nI n)), some (.int (nI i)), some (.int (nI j)), some (.int (nbS b v j q)), some (.int (nI q)), o], [.int (nv (tAt b j q))], fbP P (mdZ U s g w m t c (v, pf (nx b bo sy v) x j) a))) (by
        rw [← bd_at h hj hq, ← e4, ← e3] <;> rfl) ?_
      refine mj_b0 40 rfl ?_
      by_cases z : tAt b j q = 1023
      · refine mj_brt (by rw [z]; rfl) ?_
        refine mj_b0 5 rfl ?_
        rw [if_pos z] at iq
        exact iq
      · have hx2 : tAt b j q < bn b := ((t1.2.2.2.2.2 q hq).resolve_left z).1
        have e2 : (nv (tAt b j q)).toNatClampNeg = tAt b j q := by rw [nv_is z]; exact nI_clamp (by omega)
        refine mj_brf (fun z2 => z ((nv_NO (tAt_lt b j q)).mp z2)) ?_
        refine mj_b1 40 rfl (by rw [nv_is z]; exact nI_ix (show tAt b j q < 400 by omega) (by omega)) ?_
        rw [e2]
        rw [if_neg z] at iq
        by_cases z2 : v (tAt b j q) = nI 0
        · refine mj_brt (z2) ?_
          refine mj_b0 5 rfl ?_
          rw [z2] at iq
          exact iq
        · refine mj_brf (z2) ?_
          refine mj_b0 6 rfl ?_
          rw [(hv _ hx2).resolve_left z2] at iq
          exact iq
    · have fin : ∀ y, y = (if v j = nI 1 then sy else bo) → mj_R (mj_C (d + 2)) 9 false (some .int) iX9_steps (149, [some (.ref 35), some (.int bo), some (.int sy), some (.int (nI n)), some (.int (nI i)), some (.int (nI j)), some (.int (nbS b v j (bp b))), some (.int (nI (bp b))), o], [.int y, .int (nI j), .ref 57], fbP P (mdZ U s g w m t c (v, pf (nx b bo sy v) x j) a)) Q := by
        intro y hy
        have ih := ih (some (.int (nbS b v j (bp b))), some (.int (nI (bp b))), o)
        rw [← nI_add j 1] at ih
        have e5 : f_ishr y (nbS b v j (bp b)) &&& nI 1 = nx b bo sy v j := by rw [hy]; rfl
        refine mj_b0 4 rfl ?_
        refine mj_sq (S' := (154, [some (.ref 35), some (.int bo), some (.int sy), some (.int (nI n)), some (.int (nI i)), some (.int (nI j)), some (.int (nbS b v j (bp b))), some (.int (nI (bp b))), o], [.int (nx b bo sy v j), .int (nI j), .ref 57], fbP P (mdZ U s g w m t c (v, pf (nx b bo sy v) x j) a))) (by rw [← e5] <;> rfl) ?_
        refine mj_b0 40 rfl ?_
        rcases nx_01 b bo sy v j with z | z
        · refine mj_brt (by rw [z]; exact (show ¬ nI 0 = nI 1 by decide)) ?_
          refine mj_b1 2 rfl (hi) ?_
          refine mj_hq (h' := fbP P (mdZ U s g w m t c (v, pf (nx b bo sy v) x (j + 1)) a)) (Eq.trans (b := fbP P (mdZ U s g w m t c (v, upd (pf (nx b bo sy v) x j) (nI j).toNatClampNeg (nI 0)) a)) rfl (by rw [e1, ← pf_s, z])) ?_
          refine mj_b0 2 rfl ?_
          exact ih
        · refine mj_brf (by rw [z]; exact (show ¬ ¬ nI 1 = nI 1 by decide)) ?_
          refine mj_b1 3 rfl (hi) ?_
          refine mj_hq (h' := fbP P (mdZ U s g w m t c (v, pf (nx b bo sy v) x (j + 1)) a)) (Eq.trans (b := fbP P (mdZ U s g w m t c (v, upd (pf (nx b bo sy v) x j) (nI j).toNatClampNeg (nI 1)) a)) rfl (by rw [e1, ← pf_s, z])) ?_
          refine mj_b0 2 rfl ?_
          exact ih
      refine mj_b0 40 rfl ?_
      refine mj_brt (by rw [bd_sd h]; exact nI_le (by omega) (by omega)) ?_
      refine mj_b1 40 rfl (hi) ?_
      rw [e1]
      by_cases z : v j = nI 0
      · refine mj_brt (z) ?_
        refine mj_b0 1 rfl ?_
        exact fin bo (by rw [z]; rfl)
      · refine mj_brf (z) ?_
        refine mj_b0 2 rfl ?_
        exact fin sy (by rw [(hv j hj).resolve_left z]; rfl)
  · refine mj_b0 40 rfl ?_
    refine mj_brt (by rw [bd_cl h]; exact nI_le (by omega) (by omega)) ?_
    exact k _ _ _
theorem nxv_01 {b : Nat} {bo sy : Int32} {v : fA} (hv : ∀ q, q < bn b → v q = nI 0 ∨ v q = nI 1) : ∀ (k q : Nat), q < bn b → nxv b bo sy v k q = nI 0 ∨ nxv b bo sy v k q = nI 1
  | 0, q, hq => hv q hq
  | k + 1, q, hq => by
    show pf _ _ _ q = _ ∨ pf _ _ _ q = _
    rw [pf_in hq]
    exact nx_01 _ _ _ _ _
theorem x_msteps {b n : Nat} {bo sy : Int32} {v x : fA} (hb : b < 22) (h : Bd b g) (hv : ∀ q, q < bn b → v q = nI 0 ∨ v q = nI 1) (h1 : ¬ bo < 0 ∧ ¬ nI 2047 < bo) (h2 : ¬ sy < 0 ∧ ¬ nI 2047 < sy) (hn : 1 ≤ n) (hn2 : n ≤ 50) : ∃ x' : fA, mj_C (d + 3) nX9_steps [.ref 35, .int bo, .int sy, .int (nI n)] (fbP P (mdZ U s g w m t c (v, x) a)) (some (.int (sm (nxv b bo sy v n) (bn b)))) (fbP P (mdZ (nI 0, U.2) s g w m t c (nxv b bo sy v n, x') a)) := by
  have t0 := tb0 hb
  have k : ∃ r h', mj_C (d + 3) nX9_steps [.ref 35, .int bo, .int sy, .int (nI n)] (fbP P (mdZ U s g w m t c (v, x) a)) r h' ∧ (r = some (.int (sm (nxv b bo sy v n) (bn b))) ∧ ∃ x', h' = fbP P (mdZ (nI 0, U.2) s g w m t c (nxv b bo sy v n, x') a)) := by
    refine mj_C.ex rfl rfl rfl ?_
    refine mj_b0 40 rfl ?_
    refine mj_hq (h' := fbP P (mdZ (nI 0, U.2) s g w m t c (v, x) a)) rfl ?_
    refine mj_cS rfl rfl rfl rfl (m_in32 bo 0 (nI 2047) (by decide) (by decide)) ?_
    refine mj_b0 40 rfl ?_
    refine mj_brf (fun z => vB_0.mp z h1) ?_
    refine mj_b0 40 rfl ?_
    refine mj_cS rfl rfl rfl rfl (m_in32 sy 0 (nI 2047) (by decide) (by decide)) ?_
    refine mj_b0 40 rfl ?_
    refine mj_brf (fun z => vB_0.mp z h2) ?_
    refine mj_b0 40 rfl ?_
    refine mj_cS rfl rfl rfl rfl (m_in32 (nI n) (nI 1) (nI 50) (by decide) (by decide)) ?_
    refine mj_b0 40 rfl ?_
    refine mj_brt (fun z => vB_0.mp z ⟨nI_nlt (by omega) (by omega), nI_nlt (by omega) (by omega)⟩) ?_
    refine mj_b0 2 rfl ?_
    refine mj_itJ (fun i (o : fA × Option Value × Option Value × Option Value × Option Value) => (47, [some (.ref 35), some (.int bo), some (.int sy), some (.int (nI n)), some (.int (nI i)), o.2.1, o.2.2.1, o.2.2.2.1, o.2.2.2.2], [], fbP P (mdZ (nI 0, U.2) s g w m t c (nxv b bo sy v i, o.1) a))) n (fun i o hi ih => ?_) (fun o => ?_) (x, none, none, none, none)
    · refine mj_b0 40 rfl ?_
      refine mj_brf (nI_ge hi (by omega)) ?_
      refine mj_b0 2 rfl ?_
      refine lm_next hb h (nxv_01 hv i) _ _ _ (fun o6 o7 o8 => ?_)
      refine mj_b0 2 rfl ?_
      refine lm_then hb h (fun q hq => by rw [pf_in hq]; exact nx_01 _ _ _ _ _) _ _ _ ?_
      refine mj_b0 2 rfl ?_
      have ih := ih (pf (nx b bo sy (nxv b bo sy v i)) o.1 (bn b), some (.int (nI (bn b))), o6, o7, o8)
      rw [← nI_add i 1] at ih
      have e : nxv b bo sy v (i + 1) = pf (pf (nx b bo sy (nxv b bo sy v i)) o.1 (bn b)) (nxv b bo sy v i) (bn b) := by
        funext q
        show pf _ _ _ q = pf _ _ _ q
        by_cases hq : q < bn b
        · rw [pf_in hq, pf_in hq, pf_in hq]
        · rw [pf_out (by omega), pf_out (by omega)]
      rw [e] at ih
      exact ih
    · refine mj_b0 40 rfl ?_
      refine mj_brt (nI_le (by omega) (by omega)) ?_
      refine mj_b0 40 rfl ?_
      refine mj_cV rfl rfl rfl rfl rfl rfl (m_livingIn hb h (nxv_01 hv n)) ?_
      exact mj_end rfl rfl trivial ⟨by rw [sm_cong (fun k _ => if_pos (Or.inl rfl))], o.1, rfl⟩
  obtain ⟨r, h', k1, rfl, x', rfl⟩ := k
  exact ⟨x', k1⟩
end SPm
section SPS
variable {d : Nat}
/-- promise 26 -/
theorem s_steps (x y n : Int32) : Sim (d + 4) nX8_steps nX9_steps [.int x, .int y, .int n] := by
  intro P z hr
  obtain ⟨U, s, g, w, m, t, c, ⟨v, vx⟩, a⟩ := z
  obtain ⟨sc, F, S, G, Y, M, T, C, V, A⟩ := P
  obtain ⟨b, hb, h1, h2, h3, h4, h5, h6, h7, h8, h9, ⟨hq, hl⟩, h11⟩ := id hr
  have t0 := tb0 hb
  have h : Bd b G := h1
  have h' : Bd b g := h2
  have hl' : LvR b (lvs V) v := hl
  by_cases q : (¬ x < 0 ∧ ¬ nI 2047 < x) ∧ (¬ y < 0 ∧ ¬ nI 2047 < y) ∧ (¬ n < nI 1 ∧ n ≤ nI 50)
  · obtain ⟨q1, q2, q3, q4⟩ := q
    have hn : ∃ k : Nat, 1 ≤ k ∧ k ≤ 50 ∧ n = nI k := by
      rcases pk_ix n (n := 51) (by omega) with z | z | ⟨k, hk, rfl⟩
      · exfalso
        apply q3
        rw [Int32.lt_iff_toInt_lt] at z ⊢
        rw [nI_toInt (by omega)]
        have e0 : (0 : Int32).toInt = 0 := by decide
        omega
      · exfalso
        rw [Int32.le_iff_toInt_le, nI_toInt (by omega)] at z q4
        omega
      · refine ⟨k, ?_, by omega, rfl⟩
        rcases Nat.lt_or_ge k 1 with z | z
        · exact absurd (nI_lt z (by omega)) q3
        · exact z
    obtain ⟨k, k1, k2, rfl⟩ := hn
    obtain ⟨V', g1, g2, g3⟩ := x_steps (sc := sc) (F := F) (S := S) (Y := Y) (M := M) (T := T) (C := C) (A := A) (Z := mdz (U, s, g, w, m, t, c, (v, vx), a)) (d := d) (bo := x) (sy := y) hb h hq hl' q1 q2 k1 k2
    obtain ⟨x', g4⟩ := x_msteps (P := (sc, F, S, G, Y, M, T, C, V', A)) (U := U) (s := s) (w := w) (m := m) (t := t) (c := c) (a := a) (x := vx) (d := d + 1) (bo := x) (sy := y) hb h' (fun q hq => (hl' q hq).2) q1 q2 k1 k2
    exact ⟨_, (sc, F, S, G, Y, M, T, C, V', A), ((nI 0, U.2), s, g, w, m, t, c, (nxv b x y v k, x'), a), g3, g4, ⟨b, hb, h1, h2, h3, h4, h5, h6, h7, h8, h9, ⟨g1, g2⟩, h11⟩⟩
  · refine ⟨BD, (sc, F, S, G, Y, M, T, C, V, A), ((nI 0, U.2), s, g, w, m, t, c, (v, vx), a), ?_, ?_, hr.thrown⟩
    · refine mj_C.of rfl rfl rfl ?_
      refine mj_b0 40 rfl ?_
      refine mj_cS rfl rfl rfl rfl (c_isRule x) ?_
      refine mj_b0 40 rfl ?_
      by_cases q1 : (¬ x < 0 ∧ ¬ nI 2047 < x)
      · refine mj_brf (fun z => vB_0.mp z q1) ?_
        refine mj_b0 40 rfl ?_
        refine mj_cS rfl rfl rfl rfl (c_isRule y) ?_
        refine mj_b0 40 rfl ?_
        by_cases q2 : (¬ y < 0 ∧ ¬ nI 2047 < y)
        · refine mj_brf (fun z => vB_0.mp z q2) ?_
          refine mj_b0 40 rfl ?_
          refine mj_br (fun q3 => ?_) (fun q3 => ?_)
          · refine mj_b0 40 rfl ?_
            exact mj_end rfl rfl trivial ⟨rfl, rfl⟩
          · refine mj_b0 40 rfl ?_
            refine mj_br (fun q4 => ?_) (fun q4 => ?_)
            · exact absurd ⟨q1, q2, q3, q4⟩ q
            · refine mj_b0 40 rfl ?_
              exact mj_end rfl rfl trivial ⟨rfl, rfl⟩
        · refine mj_brt (vB_0.mpr q2) ?_
          refine mj_b0 40 rfl ?_
          exact mj_end rfl rfl trivial ⟨rfl, rfl⟩
      · refine mj_brt (vB_0.mpr q1) ?_
        refine mj_b0 40 rfl ?_
        exact mj_end rfl rfl trivial ⟨rfl, rfl⟩
    · refine mj_C.of rfl rfl rfl ?_
      refine mj_b0 40 rfl ?_
      refine mj_hq (h' := fbP (sc, F, S, G, Y, M, T, C, V, A) (mdZ (nI 0, U.2) s g w m t c (v, vx) a)) rfl ?_
      refine mj_cS rfl rfl rfl rfl (m_in32 x 0 (nI 2047) (by decide) (by decide)) ?_
      refine mj_b0 40 rfl ?_
      by_cases q1 : (¬ x < 0 ∧ ¬ nI 2047 < x)
      · refine mj_brf (fun z => vB_0.mp z q1) ?_
        refine mj_b0 40 rfl ?_
        refine mj_cS rfl rfl rfl rfl (m_in32 y 0 (nI 2047) (by decide) (by decide)) ?_
        refine mj_b0 40 rfl ?_
        by_cases q2 : (¬ y < 0 ∧ ¬ nI 2047 < y)
        · refine mj_brf (fun z => vB_0.mp z q2) ?_
          refine mj_b0 40 rfl ?_
          refine mj_cS rfl rfl rfl rfl (m_in32 n (nI 1) (nI 50) (by decide) (by decide)) ?_
          refine mj_b0 40 rfl ?_
          refine mj_brf (fun z => z (vB_0.mpr (fun z2 => q ⟨q1, q2, z2.1, by
            have z3 := z2.2
            rw [Int32.lt_iff_toInt_lt] at z3
            rw [Int32.le_iff_toInt_le]
            omega⟩))) ?_
          refine mj_b0 40 rfl ?_
          exact mj_end rfl rfl trivial ⟨rfl, rfl⟩
        · refine mj_brt (vB_0.mpr q2) ?_
          refine mj_b0 40 rfl ?_
          exact mj_end rfl rfl trivial ⟨rfl, rfl⟩
      · refine mj_brt (vB_0.mpr q1) ?_
        refine mj_b0 40 rfl ?_
        exact mj_end rfl rfl trivial ⟨rfl, rfl⟩
end SPS
