/-! promises 7 and 32, side by side -/
theorem ixn (x : Int32) {n : Nat} (hn : n < 2 ^ 31) : ((x.toInt < 0 ∨ (n : Int) ≤ x.toInt) ∧ (x < 0 ∨ nI n ≤ x)) ∨ ∃ j : Nat, j < n ∧ x = nI j := by
  rcases pk_ix x hn with q | q | q
  · refine Or.inl ⟨Or.inl ?_, Or.inl q⟩
    have e := Int32.lt_iff_toInt_lt.mp q
    have e0 : (0 : Int32).toInt = 0 := by decide
    omega
  · refine Or.inl ⟨Or.inr ?_, Or.inr q⟩
    have e := Int32.le_iff_toInt_le.mp q
    rw [nI_toInt hn] at e
    omega
  · exact Or.inr q
theorem nin {x : Int32} {n : Nat} (hn : n + 1 < 2 ^ 31) : (¬ x < 0 ∧ ¬ nI n < x) ↔ (¬ x < 0 ∧ ¬ nI (n + 1) ≤ x) := by
  rw [show (nI n < x) ↔ (nI (n + 1) ≤ x) by rw [Int32.lt_iff_toInt_lt, Int32.le_iff_toInt_le, nI_toInt (by omega), nI_toInt (by omega)]; omega]
theorem nin_no {x : Int32} {n : Nat} (hn : n + 1 < 2 ^ 31) (h : x < 0 ∨ nI (n + 1) ≤ x) : ¬ (¬ x < 0 ∧ ¬ nI n < x) := by
  rw [nin hn]
  exact fun q => h.elim q.1 q.2
theorem nin_ok {j n : Nat} (hn : n + 1 < 2 ^ 31) (h : j < n + 1) : ¬ nI j < 0 ∧ ¬ nI n < nI j := ⟨nI_pos (by omega), nI_nlt (by omega) (by omega)⟩
def clA (b j : Nat) : Nat → Int32
  | 0 => nI (tRo b j)
  | 1 => nI (tPar b j)
  | 2 => nv (tFp b j)
  | 3 => nv (tOp b j)
  | 4 => nI j - nI (bRs b (tRo b j))
  | _ => sm (fun s => if tAt b j s = 1023 then nI 0 else nI 1) (bp b)
section CE
variable {sc : mj_E} {F : Int32 × Int32} {S : fA × fA × fA} {G : fG} {Y : fY} {M : fM} {T : fT} {C : fC} {V : fV} {A : fA × Int32} {Z : mj_H} {d : Nat}
theorem c_cell {b j k : Nat} (hb : b < 22) (h : Bd b G) (hj : j < bn b) (hk : k < 6) : mj_C (d + 3) nX8_cell [.ref 1, .int (nI j), .int (nI k)] (fbH sc F S G Y M T C V A Z) (some (.int (clA b j k))) (fbH sc F S G Y M T C V A Z) := by
  have t0 := tb0 hb
  have e1 : (nI j).toNatClampNeg = j := nI_clamp (by omega)
  refine mj_C.of rfl rfl rfl ?_
  refine mj_b0 40 rfl ?_
  refine mj_cV rfl rfl rfl rfl rfl rfl (x_has h (nI j)) ?_
  refine mj_b0 40 rfl ?_
  refine mj_brt (fun z => vB_0.mp z (okb hb hj)) ?_
  refine mj_b0 40 rfl ?_
  rcases (show k = 0 ∨ k = 1 ∨ k = 2 ∨ k = 3 ∨ k = 4 ∨ k = 5 by omega) with rfl | rfl | rfl | rfl | rfl | rfl
  · refine mj_swt (t := 52) rfl (Or.inr ⟨by decide, by decide, 37, rfl, rfl⟩) ?_
    refine mj_b1 40 rfl (nI_ix (show j < 400 by omega) (by omega)) ?_
    rw [e1, bd_ro h hj]
    exact mj_end rfl rfl trivial ⟨rfl, rfl⟩
  · refine mj_swt (t := 62) rfl (Or.inr ⟨by decide, by decide, 47, rfl, rfl⟩) ?_
    refine mj_b0 40 rfl ?_
    refine mj_cV rfl rfl rfl rfl rfl rfl (x_par hb h hj) ?_
    exact mj_end rfl rfl trivial ⟨rfl, rfl⟩
  · refine mj_swt (t := 71) rfl (Or.inr ⟨by decide, by decide, 56, rfl, rfl⟩) ?_
    refine mj_b1 40 rfl (nI_ix (show j < 400 by omega) (by omega)) ?_
    rw [e1, bd_fp h hj]
    exact mj_end rfl rfl trivial ⟨rfl, rfl⟩
  · refine mj_swt (t := 81) rfl (Or.inr ⟨by decide, by decide, 66, rfl, rfl⟩) ?_
    refine mj_b1 40 rfl (nI_ix (show j < 400 by omega) (by omega)) ?_
    rw [e1, bd_op h hj]
    exact mj_end rfl rfl trivial ⟨rfl, rfl⟩
  · refine mj_swt (t := 91) rfl (Or.inr ⟨by decide, by decide, 76, rfl, rfl⟩) ?_
    refine mj_b0 40 rfl ?_
    refine mj_cV rfl rfl rfl rfl rfl rfl (c_placeOf hb h hj) ?_
    exact mj_end rfl rfl trivial ⟨rfl, rfl⟩
  · refine mj_swt (t := 100) rfl (Or.inr ⟨by decide, by decide, 85, rfl, rfl⟩) ?_
    refine mj_b0 40 rfl ?_
    refine mj_cV rfl rfl rfl rfl rfl rfl (c_besides hb h hj) ?_
    exact mj_end rfl rfl trivial ⟨rfl, rfl⟩
end CE
section CEm
variable {P : fP} {U : fU} {s : fA × fA × fA} {g : fG} {w : fW} {m : fM} {t : fR} {c : fA × fA × fA} {v : fA × fA} {a : fA × Int32} {d : Nat}
theorem m_cell {b j k : Nat} (hb : b < 22) (h : Bd b g) (hj : j < bn b) (hk : k < 6) : mj_C (d + 3) nX9_cell [.ref 35, .int (nI j), .int (nI k)] (fbP P (mdZ U s g w m t c v a)) (some (.int (clA b j k))) (fbP P (mdZ (nI 0, U.2) s g w m t c v a)) := by
  have t0 := tb0 hb
  have t1 := tb1 hb hj
  have e1 : (nI j).toNatClampNeg = j := nI_clamp (by omega)
  have e2 : (nI (tRo b j)).toNatClampNeg = tRo b j := nI_clamp (by omega)
  refine mj_C.of rfl rfl rfl ?_
  refine mj_b0 40 rfl ?_
  refine mj_hq (h' := (fbP P (mdZ (nI 0, U.2) s g w m t c v a))) rfl ?_
  refine mj_cV rfl rfl rfl rfl rfl rfl (xm_isCell hb h (nI j)) ?_
  refine mj_b0 40 rfl ?_
  refine mj_brf (fun z => vB_0.mp z (okb hb hj)) ?_
  refine mj_b0 40 rfl ?_
  refine mj_cS rfl rfl rfl rfl (m_in32 (nI k) 0 (nI 5) (by decide) (by decide)) ?_
  refine mj_b0 40 rfl ?_
  refine mj_brt (fun z => vB_0.mp z (nin_ok (by omega) hk)) ?_
  refine mj_b0 40 rfl ?_
  rcases (show k = 0 ∨ k = 1 ∨ k = 2 ∨ k = 3 ∨ k = 4 ∨ k = 5 by omega) with rfl | rfl | rfl | rfl | rfl | rfl
  · refine mj_brf (show ¬ nI 5 ≤ nI 0 by decide) ?_
    refine mj_b0 40 rfl ?_
    refine mj_brf (show ¬ ¬ nI 0 = 0 by decide) ?_
    refine mj_b1 40 rfl (nI_ix (show j < 400 by omega) (by omega)) ?_
    rw [e1, bd_ro h hj]
    exact mj_end rfl rfl trivial ⟨rfl, rfl⟩
  · refine mj_brf (show ¬ nI 5 ≤ nI 1 by decide) ?_
    refine mj_b0 40 rfl ?_
    refine mj_brt (show ¬ nI 1 = 0 by decide) ?_
    refine mj_b0 40 rfl ?_
    refine mj_brf (show ¬ ¬ nI 1 = nI 1 by decide) ?_
    refine mj_b0 40 rfl ?_
    refine mj_cV rfl rfl rfl rfl rfl rfl (xm_par0 hb h hj) ?_
    refine mj_b0 40 rfl ?_
    exact mj_end rfl rfl trivial ⟨rfl, rfl⟩
  · refine mj_brf (show ¬ nI 5 ≤ nI 2 by decide) ?_
    refine mj_b0 40 rfl ?_
    refine mj_brt (show ¬ nI 2 = 0 by decide) ?_
    refine mj_b0 40 rfl ?_
    refine mj_brt (show ¬ nI 2 = nI 1 by decide) ?_
    refine mj_b0 40 rfl ?_
    refine mj_brf (show ¬ ¬ nI 2 = nI 2 by decide) ?_
    refine mj_b1 40 rfl (nI_ix (show j < 400 by omega) (by omega)) ?_
    rw [e1, bd_fp h hj]
    exact mj_end rfl rfl trivial ⟨rfl, rfl⟩
  · refine mj_brf (show ¬ nI 5 ≤ nI 3 by decide) ?_
    refine mj_b0 40 rfl ?_
    refine mj_brt (show ¬ nI 3 = 0 by decide) ?_
    refine mj_b0 40 rfl ?_
    refine mj_brt (show ¬ nI 3 = nI 1 by decide) ?_
    refine mj_b0 40 rfl ?_
    refine mj_brt (show ¬ nI 3 = nI 2 by decide) ?_
    refine mj_b0 40 rfl ?_
    refine mj_brf (show ¬ ¬ nI 3 = nI 3 by decide) ?_
    refine mj_b1 40 rfl (nI_ix (show j < 400 by omega) (by omega)) ?_
    rw [e1, bd_op h hj]
    exact mj_end rfl rfl trivial ⟨rfl, rfl⟩
  · refine mj_brf (show ¬ nI 5 ≤ nI 4 by decide) ?_
    refine mj_b0 40 rfl ?_
    refine mj_brt (show ¬ nI 4 = 0 by decide) ?_
    refine mj_b0 40 rfl ?_
    refine mj_brt (show ¬ nI 4 = nI 1 by decide) ?_
    refine mj_b0 40 rfl ?_
    refine mj_brt (show ¬ nI 4 = nI 2 by decide) ?_
    refine mj_b0 40 rfl ?_
    refine mj_brt (show ¬ nI 4 = nI 3 by decide) ?_
    refine mj_b1 7 rfl (nI_ix (show j < 400 by omega) (by omega)) ?_
    rw [e1, bd_ro h hj]
    refine mj_b1 40 rfl (nI_ix (show tRo b j < 7 by omega) (by omega)) ?_
    rw [e2, bd_rs h (by omega)]
    exact mj_end rfl rfl trivial ⟨rfl, rfl⟩
  · refine mj_brt (show nI 5 ≤ nI 5 by decide) ?_
    refine mj_b0 4 rfl ?_
    refine mj_iter (fun k => (106, [some (.ref 35), some (.int (nI j)), some (.int (nI 5)), some (.int (sm (fun s => if tAt b j s = 1023 then nI 0 else nI 1) k)), some (.int (nI k))], [], (fbP P (mdZ (nI 0, U.2) s g w m t c v a)))) (bp b) (fun k hk ih => ?_) ?_
    · have e3 : nI 10 * nI j + nI k = nI (j * 10 + k) := by rw [pk_mul, nI_add, Nat.mul_comm]
      have e4 : (nI (j * 10 + k)).toNatClampNeg = j * 10 + k := nI_clamp (by omega)
      refine mj_b0 40 rfl ?_
      refine mj_brf (by rw [bd_sd h]; exact nI_ge hk (by omega)) ?_
      refine mj_b1 40 rfl (by show vp_in (nI 10 * nI j + nI k) 4000; rw [e3]; exact nI_ix (by omega) (by omega)) ?_
      show mj_R _ _ _ _ _ (cond (decide (gat g (nI 10 * nI j + nI k).toNatClampNeg = NO)) _ _, _, _, _) _
      rw [e3, e4, bd_at h hj hk]
      rw [← nI_add k 1] at ih
      by_cases q : tAt b j k = 1023
      · refine mj_brt (by rw [q]; rfl) ?_
        refine mj_b0 5 rfl ?_
        simp only [sm, if_pos q] at ih
        exact ih
      · refine mj_brf (fun z => q ((nv_NO (tAt_lt b j k)).mp z)) ?_
        refine mj_b0 6 rfl ?_
        simp only [sm, if_neg q] at ih
        exact ih
    · refine mj_b0 40 rfl ?_
      refine mj_brt (by rw [bd_sd h]; exact nI_le (by omega) (by omega)) ?_
      refine mj_b0 40 rfl ?_
      exact mj_end rfl rfl trivial ⟨rfl, rfl⟩
end CEm
section CES
variable {d : Nat}
/-- promise 7 -/
theorem s_cell (x y : Int32) : Sim (d + 3) nX8_cell nX9_cell [.int x, .int y] := by
  refine Sim.board0 (fun b hb => ?_)
  rcases ixb hb x with q | ⟨j, hj, rfl⟩
  · refine ⟨BD, fun sc F S G Y M T C V A Z h => ?_, fun P U s g w m t c v a h => ?_⟩
    · refine mj_C.of rfl rfl rfl ?_
      refine mj_b0 40 rfl ?_
      refine mj_cV rfl rfl rfl rfl rfl rfl (x_has h x) ?_
      refine mj_b0 40 rfl ?_
      refine mj_brf (fun z => z (vB_0.mpr q)) ?_
      refine mj_b0 40 rfl ?_
      exact mj_end rfl rfl trivial ⟨rfl, rfl⟩
    · refine mj_C.of rfl rfl rfl ?_
      refine mj_b0 40 rfl ?_
      refine mj_hq (h' := (fbP P (mdZ (nI 0, U.2) s g w m t c v a))) rfl ?_
      refine mj_cV rfl rfl rfl rfl rfl rfl (xm_isCell hb h x) ?_
      refine mj_b0 40 rfl ?_
      refine mj_brt (vB_0.mpr q) ?_
      refine mj_b0 40 rfl ?_
      exact mj_end rfl rfl trivial ⟨rfl, rfl⟩
  · rcases ixn y (n := 6) (by omega) with ⟨q1, q2⟩ | ⟨k, hk, rfl⟩
    · refine ⟨BD, fun sc F S G Y M T C V A Z h => ?_, fun P U s g w m t c v a h => ?_⟩
      · refine mj_C.of rfl rfl rfl ?_
        refine mj_b0 40 rfl ?_
        refine mj_cV rfl rfl rfl rfl rfl rfl (x_has h (nI j)) ?_
        refine mj_b0 40 rfl ?_
        refine mj_brt (fun z => vB_0.mp z (okb hb hj)) ?_
        refine mj_b0 40 rfl ?_
        refine mj_swt (t := 109) rfl (Or.inl ⟨by omega, rfl⟩) ?_
        refine mj_b0 40 rfl ?_
        exact mj_end rfl rfl trivial ⟨rfl, rfl⟩
      · refine mj_C.of rfl rfl rfl ?_
        refine mj_b0 40 rfl ?_
        refine mj_hq (h' := (fbP P (mdZ (nI 0, U.2) s g w m t c v a))) rfl ?_
        refine mj_cV rfl rfl rfl rfl rfl rfl (xm_isCell hb h (nI j)) ?_
        refine mj_b0 40 rfl ?_
        refine mj_brf (fun z => vB_0.mp z (okb hb hj)) ?_
        refine mj_b0 40 rfl ?_
        refine mj_cS rfl rfl rfl rfl (m_in32 y 0 (nI 5) (by decide) (by decide)) ?_
        refine mj_b0 40 rfl ?_
        refine mj_brf (fun z => z (vB_0.mpr (nin_no (by omega) q2))) ?_
        refine mj_b0 40 rfl ?_
        exact mj_end rfl rfl trivial ⟨rfl, rfl⟩
    · exact ⟨clA b j k, fun sc F S G Y M T C V A Z h => c_cell hb h hj hk, fun P U s g w m t c v a h => m_cell hb h hj hk⟩
/-- promise 32 -/
theorem s_as (x y : Int32) : Sim (d + 3) nX8_as nX9_as [.int x, .int y] := by
  intro P z hr
  obtain ⟨U, s, g, w, m, t, c, v, a⟩ := z
  obtain ⟨sc, F, S, G, Y, M, T, C, V, A⟩ := P
  obtain ⟨b, hb, h1, h2, h3, h4, h5⟩ := id hr
  have t0 := tb0 hb
  have h : Bd b G := h1
  have h' : Bd b g := h2
  by_cases q : (¬ x < 0 ∧ ¬ nI (bn b) ≤ x) ∧ (¬ y < 0 ∧ y ≤ nI 3)
  · rcases ixb hb x with z | ⟨j, hj, rfl⟩
    · exact absurd q.1 z
    have e1 : (nI j).toNatClampNeg = j := nI_clamp (by omega)
    have q2 : ¬ y < 0 ∧ ¬ nI 3 < y := ⟨q.2.1, fun z => by
      have q3 := q.2.2
      rw [Int32.le_iff_toInt_le] at q3
      rw [Int32.lt_iff_toInt_lt] at z
      omega⟩
    by_cases k : y = 0 ∨ y = nI (tKd b j)
    · refine ⟨nI (tRo b j), (sc, (nI 0, F.2), S, G, Y, M, T, C, V, A), ((nI 0, nI 0), s, g, w, m, t, c, v, a), ?_, ?_, ⟨b, hb, h1, h2, rfl, h4, h5⟩⟩
      · have fin : mj_R (mj_C (d + 2)) 8 false (some .int) iX8_as (45, [some (.ref 1), some (.int (nI j)), some (.int y)], [], fbP (sc, F, S, G, Y, M, T, C, V, A) (mdz (U, s, g, w, m, t, c, v, a))) (fun r2 h2 => r2 = some (.int (nI (tRo b j))) ∧ h2 = fbP (sc, (nI 0, F.2), S, G, Y, M, T, C, V, A) (mdz (U, s, g, w, m, t, c, v, a))) := by
          refine mj_b1 40 rfl (nI_ix (show j < 400 by omega) (by omega)) ?_
          rw [e1]
          refine mj_sq (S' := (55, [some (.ref 1), some (.int (nI j)), some (.int y)], [.int (nI (tRo b j)), .ref 1], fbH sc F S G Y M T C V A (mdz (U, s, g, w, m, t, c, v, a)))) (by rw [← bd_ro h hj]; rfl) ?_
          refine mj_cV rfl rfl rfl rfl rfl rfl (c_sound _) ?_
          exact mj_end rfl rfl trivial ⟨rfl, rfl⟩
        refine mj_C.of rfl rfl rfl ?_
        refine mj_b0 40 rfl ?_
        refine mj_cV rfl rfl rfl rfl rfl rfl (x_has h (nI j)) ?_
        refine mj_b0 40 rfl ?_
        refine mj_brf (fun z => vB_0.mp z (okb hb hj)) ?_
        refine mj_b0 40 rfl ?_
        refine mj_brf (q.2.1) ?_
        refine mj_b0 40 rfl ?_
        refine mj_brt (q.2.2) ?_
        refine mj_b0 40 rfl ?_
        by_cases k1 : y = 0
        · refine mj_brt (k1) ?_
          exact fin
        · refine mj_brf (k1) ?_
          refine mj_b0 40 rfl ?_
          refine mj_cV rfl rfl rfl rfl rfl rfl (c_toldKind hb h hj) ?_
          refine mj_b0 40 rfl ?_
          refine mj_brt (k.resolve_left k1) ?_
          exact fin
      · refine mj_C.of rfl rfl rfl ?_
        refine mj_b0 40 rfl ?_
        refine mj_hq (h' := fbP (sc, (nI 0, F.2), S, G, Y, M, T, C, V, A) (mdZ (nI 0, U.2) s g w m t c v a)) rfl ?_
        refine mj_cV rfl rfl rfl rfl rfl rfl (xm_isCell hb h' (nI j)) ?_
        refine mj_b0 40 rfl ?_
        refine mj_brf (fun z => vB_0.mp z (okb hb hj)) ?_
        refine mj_b0 40 rfl ?_
        refine mj_cS rfl rfl rfl rfl (m_in32 y 0 (nI 3) (by decide) (by decide)) ?_
        refine mj_b0 40 rfl ?_
        refine mj_brt (fun z => vB_0.mp z q2) ?_
        refine mj_b0 40 rfl ?_
        refine mj_hq (h' := fbP (sc, (nI 0, F.2), S, G, Y, M, T, C, V, A) (mdZ (nI 0, nI 0) s g w m t c v a)) rfl ?_
        by_cases k1 : y = 0
        · refine mj_brt (k1) ?_
          refine mj_b1 40 rfl (nI_ix (show j < 400 by omega) (by omega)) ?_
          rw [e1, bd_ro h' hj]
          exact mj_end rfl rfl trivial ⟨rfl, rfl⟩
        · refine mj_brf (k1) ?_
          refine mj_b0 40 rfl ?_
          refine mj_cV rfl rfl rfl rfl rfl rfl (m_kindOf hb h' hj) ?_
          refine mj_b0 40 rfl ?_
          refine mj_brf (fun z => z (k.resolve_left k1).symm) ?_
          refine mj_b1 40 rfl (nI_ix (show j < 400 by omega) (by omega)) ?_
          rw [e1, bd_ro h' hj]
          exact mj_end rfl rfl trivial ⟨rfl, rfl⟩
    · have k1 : ¬ y = 0 := fun z => k (Or.inl z)
      have k2 : ¬ y = nI (tKd b j) := fun z => k (Or.inr z)
      refine ⟨-1000010 - nI 3, (sc, (nI 3, F.2), S, G, Y, M, T, C, V, A), ((nI 0, nI 3), s, g, w, m, t, c, v, a), ?_, ?_, ⟨b, hb, h1, h2, rfl, h4, h5⟩⟩
      · refine mj_C.of rfl rfl rfl ?_
        refine mj_b0 40 rfl ?_
        refine mj_cV rfl rfl rfl rfl rfl rfl (x_has h (nI j)) ?_
        refine mj_b0 40 rfl ?_
        refine mj_brf (fun z => vB_0.mp z (okb hb hj)) ?_
        refine mj_b0 40 rfl ?_
        refine mj_brf (q.2.1) ?_
        refine mj_b0 40 rfl ?_
        refine mj_brt (q.2.2) ?_
        refine mj_b0 40 rfl ?_
        refine mj_brf (k1) ?_
        refine mj_b0 40 rfl ?_
        refine mj_cV rfl rfl rfl rfl rfl rfl (c_toldKind hb h hj) ?_
        refine mj_b0 40 rfl ?_
        refine mj_brf (k2) ?_
        refine mj_b0 40 rfl ?_
        refine mj_cV rfl rfl rfl rfl rfl rfl (c_finding (nI 3)) ?_
        exact mj_end rfl rfl trivial ⟨rfl, rfl⟩
      · refine mj_C.of rfl rfl rfl ?_
        refine mj_b0 40 rfl ?_
        refine mj_hq (h' := fbP (sc, (nI 3, F.2), S, G, Y, M, T, C, V, A) (mdZ (nI 0, U.2) s g w m t c v a)) rfl ?_
        refine mj_cV rfl rfl rfl rfl rfl rfl (xm_isCell hb h' (nI j)) ?_
        refine mj_b0 40 rfl ?_
        refine mj_brf (fun z => vB_0.mp z (okb hb hj)) ?_
        refine mj_b0 40 rfl ?_
        refine mj_cS rfl rfl rfl rfl (m_in32 y 0 (nI 3) (by decide) (by decide)) ?_
        refine mj_b0 40 rfl ?_
        refine mj_brt (fun z => vB_0.mp z q2) ?_
        refine mj_b0 40 rfl ?_
        refine mj_hq (h' := fbP (sc, (nI 3, F.2), S, G, Y, M, T, C, V, A) (mdZ (nI 0, nI 0) s g w m t c v a)) rfl ?_
        refine mj_brf (k1) ?_
        refine mj_b0 40 rfl ?_
        refine mj_cV rfl rfl rfl rfl rfl rfl (m_kindOf hb h' hj) ?_
        refine mj_b0 40 rfl ?_
        refine mj_brt (fun z => k2 z.symm) ?_
        refine mj_b0 40 rfl ?_
        refine mj_cV rfl rfl rfl rfl rfl rfl (m_finding (nI 3)) ?_
        exact mj_end rfl rfl trivial ⟨rfl, rfl⟩
  · refine ⟨BD, (sc, F, S, G, Y, M, T, C, V, A), ((nI 0, U.2), s, g, w, m, t, c, v, a), ?_, ?_, hr.thrown⟩
    · refine mj_C.of rfl rfl rfl ?_
      refine mj_b0 40 rfl ?_
      refine mj_cV rfl rfl rfl rfl rfl rfl (x_has h x) ?_
      refine mj_b0 40 rfl ?_
      by_cases q1 : (¬ x < 0 ∧ ¬ nI (bn b) ≤ x)
      · refine mj_brf (fun z => vB_0.mp z q1) ?_
        refine mj_b0 40 rfl ?_
        refine mj_br (fun k1 => ?_) (fun k1 => ?_)
        · refine mj_b0 40 rfl ?_
          exact mj_end rfl rfl trivial ⟨rfl, rfl⟩
        · refine mj_b0 40 rfl ?_
          refine mj_br (fun k2 => ?_) (fun k2 => ?_)
          · exact absurd ⟨q1, k1, k2⟩ q
          · refine mj_b0 40 rfl ?_
            exact mj_end rfl rfl trivial ⟨rfl, rfl⟩
      · refine mj_brt (vB_0.mpr q1) ?_
        refine mj_b0 40 rfl ?_
        exact mj_end rfl rfl trivial ⟨rfl, rfl⟩
    · refine mj_C.of rfl rfl rfl ?_
      refine mj_b0 40 rfl ?_
      refine mj_hq (h' := fbP (sc, F, S, G, Y, M, T, C, V, A) (mdZ (nI 0, U.2) s g w m t c v a)) rfl ?_
      refine mj_cV rfl rfl rfl rfl rfl rfl (xm_isCell hb h' x) ?_
      refine mj_b0 40 rfl ?_
      by_cases q1 : (¬ x < 0 ∧ ¬ nI (bn b) ≤ x)
      · refine mj_brf (fun z => vB_0.mp z q1) ?_
        refine mj_b0 40 rfl ?_
        refine mj_cS rfl rfl rfl rfl (m_in32 y 0 (nI 3) (by decide) (by decide)) ?_
        refine mj_b0 40 rfl ?_
        refine mj_brf (fun z => z (vB_0.mpr (fun z2 => q ⟨q1, z2.1, by
          have z3 := z2.2
          rw [Int32.lt_iff_toInt_lt] at z3
          rw [Int32.le_iff_toInt_le]
          omega⟩))) ?_
        refine mj_b0 40 rfl ?_
        exact mj_end rfl rfl trivial ⟨rfl, rfl⟩
      · refine mj_brt (vB_0.mpr q1) ?_
        refine mj_b0 40 rfl ?_
        exact mj_end rfl rfl trivial ⟨rfl, rfl⟩
end CES
