/-! promises 2 and 3, side by side -/
section SC
variable {sc : mj_E} {F : Int32 × Int32} {S : fA × fA × fA} {G : fG} {Y : fY} {M : fM} {T : fT} {C : fC} {V : fV} {A : fA × Int32} {Z : mj_H} {d : Nat}
theorem c_sheet_bad {x l n : Int32} (hb : ¬ ((¬ x < 0 ∧ ¬ nI 8 ≤ x) ∧ (¬ l < 0 ∧ ¬ nI 2 < l) ∧ n ≤ nI 60)) : mj_C (d + 3) nX8_sheet [.ref 1, .int x, .int l, .int n] (fbH sc F S G Y M T C V A Z) (some (.int BD)) (fbH sc F S G Y M T C V A Z) := by
  refine mj_C.of rfl rfl rfl ?_
  refine mj_b0 40 rfl ?_
  refine mj_cV rfl rfl rfl rfl rfl rfl (c_shas x) ?_
  refine mj_b0 40 rfl ?_
  by_cases q : (¬ x < 0 ∧ ¬ nI 8 ≤ x)
  · refine mj_brf (fun z => vB_0.mp z q) ?_
    refine mj_b0 40 rfl ?_
    refine mj_br (fun h1 => ?_) (fun h1 => ?_)
    · refine mj_b0 40 rfl ?_
      exact mj_end rfl rfl trivial ⟨rfl, rfl⟩
    · refine mj_b0 40 rfl ?_
      refine mj_br (fun h2 => ?_) (fun h2 => ?_)
      · refine mj_b0 40 rfl ?_
        exact mj_end rfl rfl trivial ⟨rfl, rfl⟩
      · refine mj_b0 40 rfl ?_
        refine mj_br (fun h3 => ?_) (fun h3 => ?_)
        · exact absurd ⟨q, ⟨h1, h2⟩, h3⟩ hb
        · refine mj_b0 40 rfl ?_
          exact mj_end rfl rfl trivial ⟨rfl, rfl⟩
  · refine mj_brt (vB_0.mpr q) ?_
    refine mj_b0 40 rfl ?_
    exact mj_end rfl rfl trivial ⟨rfl, rfl⟩
theorem c_sheet_neg {k : Nat} {l n : Int32} (hk : k < 8) (hl : ¬ l < 0 ∧ ¬ nI 2 < l) (h6 : n ≤ nI 60) (hn : n < 0) : mj_C (d + 3) nX8_sheet [.ref 1, .int (nI k), .int l, .int n] (fbH sc F S G Y M T C V A Z) (some (.int (-1000010 - nI 4))) (fbH sc (nI 4, F.2) S G Y M T C V A Z) := by
  refine mj_C.of rfl rfl rfl ?_
  refine mj_b0 40 rfl ?_
  refine mj_cV rfl rfl rfl rfl rfl rfl (c_shas (nI k)) ?_
  refine mj_b0 40 rfl ?_
  refine mj_brf (fun z => vB_0.mp z (ok8 hk)) ?_
  refine mj_b0 40 rfl ?_
  refine mj_brf (hl.1) ?_
  refine mj_b0 40 rfl ?_
  refine mj_brf (hl.2) ?_
  refine mj_b0 40 rfl ?_
  refine mj_brt (h6) ?_
  refine mj_b0 40 rfl ?_
  refine mj_brf (fun q : 0 ≤ n => by
    rw [Int32.le_iff_toInt_le] at q
    rw [Int32.lt_iff_toInt_lt] at hn
    omega) ?_
  refine mj_b0 40 rfl ?_
  refine mj_cV rfl rfl rfl rfl rfl rfl (c_finding (nI 4)) ?_
  exact mj_end rfl rfl trivial ⟨rfl, rfl⟩
theorem c_sheet_ok {it ln sz : fA} {k n : Nat} {l : Int32} (hk : k < 8) (hl : ¬ l < 0 ∧ ¬ nI 2 < l) (hn : n ≤ 60) : mj_C (d + 3) nX8_sheet [.ref 1, .int (nI k), .int l, .int (nI n)] (fbH sc F (it, ln, sz) G Y M T C V A Z) (some (.int (nI n))) (fbH sc (nI 0, F.2) (fun q => if k * 60 ≤ q ∧ q < k * 60 + n then nI 0 else it q, upd ln k l, upd sz k (nI n)) G Y M T C V A Z) := by
  refine mj_C.of rfl rfl rfl ?_
  refine mj_b0 40 rfl ?_
  refine mj_cV rfl rfl rfl rfl rfl rfl (c_shas (nI k)) ?_
  refine mj_b0 40 rfl ?_
  refine mj_brf (fun z => vB_0.mp z (ok8 hk)) ?_
  refine mj_b0 40 rfl ?_
  refine mj_brf (hl.1) ?_
  refine mj_b0 40 rfl ?_
  refine mj_brf (hl.2) ?_
  refine mj_b0 40 rfl ?_
  refine mj_brt (show nI n ≤ nI 60 from nI_le (by omega) (by omega)) ?_
  refine mj_b0 40 rfl ?_
  refine mj_brt (nI_pos' (by omega)) ?_
  refine mj_b0 40 rfl ?_
  refine mj_cV rfl rfl rfl rfl rfl rfl (c_lay hk hn) ?_
  refine mj_b0 40 rfl ?_
  refine mj_cV rfl rfl rfl rfl rfl rfl (c_sound _) ?_
  exact mj_end rfl rfl trivial ⟨rfl, rfl⟩
theorem c_narrowed (l x : Int32) (hl : l = nI 0 ∨ l = nI 1 ∨ l = nI 2) : mj_C (d + 1) nX5_narrowed [.int l, .int x] (fbH sc F S G Y M T C V A Z) (some (.int (nar l x))) (fbH sc F S G Y M T C V A Z) := by
  rcases hl with rfl | rfl | rfl
  · refine mj_C.of rfl rfl rfl ?_
    refine mj_b0 40 rfl ?_
    refine mj_swt (t := 28) rfl (⟨by decide, rfl⟩) ?_
    refine mj_b0 40 rfl ?_
    exact mj_end rfl rfl trivial ⟨rfl, rfl⟩
  · refine mj_C.of rfl rfl rfl ?_
    refine mj_b0 40 rfl ?_
    refine mj_swt (t := 31) rfl (⟨by decide, rfl⟩) ?_
    refine mj_b0 40 rfl ?_
    exact mj_end rfl rfl trivial ⟨rfl, rfl⟩
  · refine mj_C.of rfl rfl rfl ?_
    refine mj_b0 40 rfl ?_
    refine mj_swt (t := 34) rfl (⟨by decide, rfl⟩) ?_
    refine mj_b0 40 rfl ?_
    exact mj_end rfl rfl trivial ⟨rfl, rfl⟩
theorem c_write {it ln sz : fA} {k i : Nat} {x : Int32} (hk : k < 8) (hi : i < 60) (hl : ln k = nI 0 ∨ ln k = nI 1 ∨ ln k = nI 2) : mj_C (d + 2) nX5_write [.ref 2, .int (nI k), .int (nI i), .int x] (fbH sc F (it, ln, sz) G Y M T C V A Z) (some (.int (nar (ln k) x))) (fbH sc F (upd it (k * 60 + i) (nar (ln k) x), ln, sz) G Y M T C V A Z) := by
  have e1 : nI k * nI 60 + nI i = nI (k * 60 + i) := by rw [pk_mul, nI_add]
  have e2 : (nI (k * 60 + i)).toNatClampNeg = k * 60 + i := nI_clamp (by omega)
  have e3 : (nI k).toNatClampNeg = k := nI_clamp (by omega)
  refine mj_C.of rfl rfl rfl ?_
  refine mj_b1 40 rfl (nI_ix hk (by omega)) ?_
  rw [e3]
  refine mj_cS rfl rfl rfl rfl (c_narrowed (ln k) x hl) ?_
  refine mj_b1 40 rfl (by show vp_in (nI k * nI 60 + nI i) 480; rw [e1]; exact nI_ix (by omega) (by omega)) ?_
  refine mj_end rfl rfl trivial ⟨rfl, ?_⟩
  exact Eq.trans (b := fbH sc F (upd it (nI k * nI 60 + nI i).toNatClampNeg (nar (ln k) x), ln, sz) G Y M T C V A Z) rfl (by rw [e1, e2])
theorem c_set_bad {x i y : Int32} (hx : x < 0 ∨ nI 8 ≤ x) : mj_C (d + 3) nX8_set [.ref 1, .int x, .int i, .int y] (fbH sc F S G Y M T C V A Z) (some (.int BD)) (fbH sc F S G Y M T C V A Z) := by
  refine mj_C.of rfl rfl rfl ?_
  refine mj_b0 40 rfl ?_
  refine mj_cV rfl rfl rfl rfl rfl rfl (c_shas x) ?_
  refine mj_b0 40 rfl ?_
  refine mj_brf (fun q => q (vB_0.mpr (no8 hx))) ?_
  refine mj_b0 40 rfl ?_
  exact mj_end rfl rfl trivial ⟨rfl, rfl⟩
theorem c_set_null {k : Nat} {i y : Int32} (hk : k < 8) (hm : S.2.1 k = -(nI 1)) : mj_C (d + 3) nX8_set [.ref 1, .int (nI k), .int i, .int y] (fbH sc F S G Y M T C V A Z) (some (.int (-1000010 - nI 1))) (fbH sc (nI 1, F.2) S G Y M T C V A Z) := by
  refine mj_C.of rfl rfl rfl ?_
  refine mj_b0 40 rfl ?_
  refine mj_cV rfl rfl rfl rfl rfl rfl (c_shas (nI k)) ?_
  refine mj_b0 40 rfl ?_
  refine mj_brt (fun q => vB_0.mp q (ok8 hk)) ?_
  refine mj_b0 40 rfl ?_
  refine mj_cV rfl rfl rfl rfl rfl rfl (c_isMissing hk) ?_
  refine mj_b0 40 rfl ?_
  refine mj_brf (fun q => vB_0.mp q hm) ?_
  refine mj_b0 40 rfl ?_
  refine mj_cV rfl rfl rfl rfl rfl rfl (c_finding (nI 1)) ?_
  exact mj_end rfl rfl trivial ⟨rfl, rfl⟩
theorem c_set_place {k : Nat} {i y : Int32} (hk : k < 8) (hm : S.2.1 k ≠ -(nI 1)) (hb : ¬ (¬ i < 0 ∧ ¬ nI 1 < 0 ∧ ¬ S.2.2 k < i ∧ ¬ S.2.2 k - i < nI 1)) : mj_C (d + 3) nX8_set [.ref 1, .int (nI k), .int i, .int y] (fbH sc F S G Y M T C V A Z) (some (.int (-1000010 - nI 2))) (fbH sc (nI 2, F.2) S G Y M T C V A Z) := by
  refine mj_C.of rfl rfl rfl ?_
  refine mj_b0 40 rfl ?_
  refine mj_cV rfl rfl rfl rfl rfl rfl (c_shas (nI k)) ?_
  refine mj_b0 40 rfl ?_
  refine mj_brt (fun q => vB_0.mp q (ok8 hk)) ?_
  refine mj_b0 40 rfl ?_
  refine mj_cV rfl rfl rfl rfl rfl rfl (c_isMissing hk) ?_
  refine mj_b0 40 rfl ?_
  refine mj_brt (vB_0.mpr hm) ?_
  refine mj_b0 40 rfl ?_
  refine mj_cV rfl rfl rfl rfl rfl rfl (c_holds hk i (nI 1)) ?_
  refine mj_b0 40 rfl ?_
  refine mj_brf (fun q => q (vB_0.mpr hb)) ?_
  refine mj_b0 40 rfl ?_
  refine mj_cV rfl rfl rfl rfl rfl rfl (c_finding (nI 2)) ?_
  exact mj_end rfl rfl trivial ⟨rfl, rfl⟩
theorem c_set_ok {it ln sz : fA} {k i : Nat} {y : Int32} (hk : k < 8) (hi : i < 60) (hl : ln k = nI 0 ∨ ln k = nI 1 ∨ ln k = nI 2) (hm : ln k ≠ -(nI 1)) (hb : ¬ nI i < 0 ∧ ¬ nI 1 < 0 ∧ ¬ sz k < nI i ∧ ¬ sz k - nI i < nI 1) : mj_C (d + 3) nX8_set [.ref 1, .int (nI k), .int (nI i), .int y] (fbH sc F (it, ln, sz) G Y M T C V A Z) (some (.int (nar (ln k) y))) (fbH sc (nI 0, F.2) (upd it (k * 60 + i) (nar (ln k) y), ln, sz) G Y M T C V A Z) := by
  refine mj_C.of rfl rfl rfl ?_
  refine mj_b0 40 rfl ?_
  refine mj_cV rfl rfl rfl rfl rfl rfl (c_shas (nI k)) ?_
  refine mj_b0 40 rfl ?_
  refine mj_brt (fun q => vB_0.mp q (ok8 hk)) ?_
  refine mj_b0 40 rfl ?_
  refine mj_cV rfl rfl rfl rfl rfl rfl (c_isMissing hk) ?_
  refine mj_b0 40 rfl ?_
  refine mj_brt (vB_0.mpr hm) ?_
  refine mj_b0 40 rfl ?_
  refine mj_cV rfl rfl rfl rfl rfl rfl (c_holds hk (nI i) (nI 1)) ?_
  refine mj_b0 40 rfl ?_
  refine mj_brt (fun q => vB_0.mp q hb) ?_
  refine mj_b0 40 rfl ?_
  refine mj_cV rfl rfl rfl rfl rfl rfl (c_write hk hi hl) ?_
  refine mj_cV rfl rfl rfl rfl rfl rfl (c_sound _) ?_
  exact mj_end rfl rfl trivial ⟨rfl, rfl⟩
end SC
section SCm
variable {P : fP} {U : fU} {s : fA × fA × fA} {g : fG} {w : fW} {m : fM} {t : fR} {c : fA × fA × fA} {v : fA × fA} {a : fA × Int32} {d : Nat}
theorem m_sheet_bad {x l n : Int32} (hb : ¬ ((¬ x < 0 ∧ ¬ 7 < x) ∧ (¬ l < 0 ∧ ¬ nI 2 < l) ∧ n ≤ nI 60)) : mj_C (d + 3) nX9_sheet [.ref 35, .int x, .int l, .int n] (fbP P (mdZ U s g w m t c v a)) (some (.int BD)) (fbP P (mdZ (nI 0, U.2) s g w m t c v a)) := by
  refine mj_C.of rfl rfl rfl ?_
  refine mj_b0 40 rfl ?_
  refine mj_hq (h' := (fbP P (mdZ (nI 0, U.2) s g w m t c v a))) rfl ?_
  refine mj_cS rfl rfl rfl rfl (m_isSheet x) ?_
  refine mj_b0 40 rfl ?_
  by_cases q : (¬ x < 0 ∧ ¬ 7 < x)
  · refine mj_brf (fun z => vB_0.mp z q) ?_
    refine mj_b0 40 rfl ?_
    refine mj_cS rfl rfl rfl rfl (m_in32 l 0 (nI 2) (by decide) (by decide)) ?_
    refine mj_b0 40 rfl ?_
    by_cases q2 : (¬ l < 0 ∧ ¬ nI 2 < l)
    · refine mj_brf (fun z => vB_0.mp z q2) ?_
      refine mj_b0 40 rfl ?_
      refine mj_br (fun h3 => ?_) (fun h3 => ?_)
      · exact absurd ⟨q, q2, h3⟩ hb
      · refine mj_b0 40 rfl ?_
        exact mj_end rfl rfl trivial ⟨rfl, rfl⟩
    · refine mj_brt (vB_0.mpr q2) ?_
      refine mj_b0 40 rfl ?_
      exact mj_end rfl rfl trivial ⟨rfl, rfl⟩
  · refine mj_brt (vB_0.mpr q) ?_
    refine mj_b0 40 rfl ?_
    exact mj_end rfl rfl trivial ⟨rfl, rfl⟩
theorem m_sheet_neg {k : Nat} {l n : Int32} (hk : k < 8) (hl : ¬ l < 0 ∧ ¬ nI 2 < l) (h6 : n ≤ nI 60) (hn : n < 0) : mj_C (d + 3) nX9_sheet [.ref 35, .int (nI k), .int l, .int n] (fbP P (mdZ U s g w m t c v a)) (some (.int (-1000010 - nI 4))) (fbP P (mdZ (nI 0, nI 4) s g w m t c v a)) := by
  refine mj_C.of rfl rfl rfl ?_
  refine mj_b0 40 rfl ?_
  refine mj_hq (h' := (fbP P (mdZ (nI 0, U.2) s g w m t c v a))) rfl ?_
  refine mj_cS rfl rfl rfl rfl (m_isSheet (nI k)) ?_
  refine mj_b0 40 rfl ?_
  refine mj_brf (fun z => vB_0.mp z (ok7 hk)) ?_
  refine mj_b0 40 rfl ?_
  refine mj_cS rfl rfl rfl rfl (m_in32 l 0 (nI 2) (by decide) (by decide)) ?_
  refine mj_b0 40 rfl ?_
  refine mj_brf (fun z => vB_0.mp z hl) ?_
  refine mj_b0 40 rfl ?_
  refine mj_brt (h6) ?_
  refine mj_b0 40 rfl ?_
  refine mj_hq (h' := fbP P (mdZ (nI 0, nI 0) s g w m t c v a)) rfl ?_
  refine mj_brf (fun q : 0 ≤ n => by
    rw [Int32.le_iff_toInt_le] at q
    rw [Int32.lt_iff_toInt_lt] at hn
    omega) ?_
  refine mj_b0 40 rfl ?_
  refine mj_cV rfl rfl rfl rfl rfl rfl (m_finding (nI 4)) ?_
  exact mj_end rfl rfl trivial ⟨rfl, rfl⟩
theorem m_sheet_ok {ln mn it : fA} {k n : Nat} {l : Int32} (hk : k < 8) (hl : ¬ l < 0 ∧ ¬ nI 2 < l) (hn : n ≤ 60) : mj_C (d + 3) nX9_sheet [.ref 35, .int (nI k), .int l, .int (nI n)] (fbP P (mdZ U (ln, mn, it) g w m t c v a)) (some (.int (nI n))) (fbP P (mdZ (nI 0, nI 0) (upd ln k l, upd mn k (nI n), rf it (k * 60) 60 (nI 0)) g w m t c v a)) := by
  have e1 : (nI k).toNatClampNeg = k := nI_clamp (by omega)
  refine mj_C.of rfl rfl rfl ?_
  refine mj_b0 40 rfl ?_
  refine mj_hq (h' := fbP P (mdZ (nI 0, U.2) (ln, mn, it) g w m t c v a)) rfl ?_
  refine mj_cS rfl rfl rfl rfl (m_isSheet (nI k)) ?_
  refine mj_b0 40 rfl ?_
  refine mj_brf (fun z => vB_0.mp z (ok7 hk)) ?_
  refine mj_b0 40 rfl ?_
  refine mj_cS rfl rfl rfl rfl (m_in32 l 0 (nI 2) (by decide) (by decide)) ?_
  refine mj_b0 40 rfl ?_
  refine mj_brf (fun z => vB_0.mp z hl) ?_
  refine mj_b0 40 rfl ?_
  refine mj_brt (show nI n ≤ nI 60 from nI_le (by omega) (by omega)) ?_
  refine mj_b0 40 rfl ?_
  refine mj_hq (h' := fbP P (mdZ (nI 0, nI 0) (ln, mn, it) g w m t c v a)) rfl ?_
  refine mj_brt (nI_pos' (by omega)) ?_
  refine mj_b1 12 rfl (⟨nI_ix hk (by omega), nI_ix hk (by omega)⟩) ?_
  refine mj_hq (h' := fbP P (mdZ (nI 0, nI 0) (upd ln k l, upd mn k (nI n), rf it (k * 60) 0 (nI 0)) g w m t c v a)) (Eq.trans (b := fbP P (mdZ (nI 0, nI 0) (upd ln (nI k).toNatClampNeg l, upd mn (nI k).toNatClampNeg (nI n), it) g w m t c v a)) rfl (by rw [e1, rf_0])) ?_
  refine mj_iter (fun i => (65, [some (.ref 35), some (.int (nI k)), some (.int l), some (.int (nI n)), some (.int (nI i))], [], fbP P (mdZ (nI 0, nI 0) (upd ln k l, upd mn k (nI n), rf it (k * 60) i (nI 0)) g w m t c v a))) 60 (fun i hi ih => ?_) ?_
  · have e2 : nI 60 * nI k + nI i = nI (k * 60 + i) := by rw [pk_mul, nI_add, Nat.mul_comm]
    have e3 : (nI (k * 60 + i)).toNatClampNeg = k * 60 + i := nI_clamp (by omega)
    refine mj_b0 40 rfl ?_
    refine mj_brf (show ¬ nI 60 ≤ nI i from nI_ge hi (by omega)) ?_
    refine mj_b1 9 rfl (by show vp_in (nI 60 * nI k + nI i) 480; rw [e2]; exact nI_ix (by omega) (by omega)) ?_
    refine mj_hq (h' := fbP P (mdZ (nI 0, nI 0) (upd ln k l, upd mn k (nI n), rf it (k * 60) (i + 1) (nI 0)) g w m t c v a)) (Eq.trans (b := fbP P (mdZ (nI 0, nI 0) (upd ln k l, upd mn k (nI n), upd (rf it (k * 60) i (nI 0)) (nI 60 * nI k + nI i).toNatClampNeg (nI 0)) g w m t c v a)) rfl (by rw [e2, e3, rf_s])) ?_
    refine mj_b0 2 rfl ?_
    rw [← nI_add i 1] at ih
    exact ih
  · refine mj_b0 40 rfl ?_
    refine mj_brt (show nI 60 ≤ nI 60 by decide) ?_
    refine mj_b0 40 rfl ?_
    exact mj_end rfl rfl trivial ⟨rfl, rfl⟩
theorem m_set_bad {x i y : Int32} (hx : x < 0 ∨ nI 8 ≤ x) : mj_C (d + 3) nX9_set [.ref 35, .int x, .int i, .int y] (fbP P (mdZ U s g w m t c v a)) (some (.int BD)) (fbP P (mdZ (nI 0, U.2) s g w m t c v a)) := by
  refine mj_C.of rfl rfl rfl ?_
  refine mj_b0 40 rfl ?_
  refine mj_hq (h' := (fbP P (mdZ (nI 0, U.2) s g w m t c v a))) rfl ?_
  refine mj_cS rfl rfl rfl rfl (m_isSheet x) ?_
  refine mj_b0 40 rfl ?_
  refine mj_brf (fun q => q (vB_0.mpr (no7 hx))) ?_
  refine mj_b0 40 rfl ?_
  exact mj_end rfl rfl trivial ⟨rfl, rfl⟩
theorem m_set_null {k : Nat} {i y : Int32} (hk : k < 8) (hm : s.1 k = -(nI 1)) : mj_C (d + 3) nX9_set [.ref 35, .int (nI k), .int i, .int y] (fbP P (mdZ U s g w m t c v a)) (some (.int (-1000010 - nI 1))) (fbP P (mdZ (nI 0, nI 1) s g w m t c v a)) := by
  have e1 : (nI k).toNatClampNeg = k := nI_clamp (by omega)
  refine mj_C.of rfl rfl rfl ?_
  refine mj_b0 40 rfl ?_
  refine mj_hq (h' := (fbP P (mdZ (nI 0, U.2) s g w m t c v a))) rfl ?_
  refine mj_cS rfl rfl rfl rfl (m_isSheet (nI k)) ?_
  refine mj_b0 40 rfl ?_
  refine mj_brt (fun q => vB_0.mp q (ok7 hk)) ?_
  refine mj_b1 40 rfl (nI_ix hk (by omega)) ?_
  rw [e1, hm]
  refine mj_hq (h' := fbP P (mdZ (nI 0, nI 0) s g w m t c v a)) rfl ?_
  refine mj_brf (show ¬ (0 ≤ -(nI 1)) by decide) ?_
  refine mj_b0 40 rfl ?_
  refine mj_cV rfl rfl rfl rfl rfl rfl (m_finding (nI 1)) ?_
  exact mj_end rfl rfl trivial ⟨rfl, rfl⟩
theorem m_set_place {k n : Nat} {i y : Int32} (hk : k < 8) (hm : 0 ≤ s.1 k) (hn : s.2.1 k = nI n) (hn2 : n ≤ 60) (hb : i < 0 ∨ nI n ≤ i) : mj_C (d + 3) nX9_set [.ref 35, .int (nI k), .int i, .int y] (fbP P (mdZ U s g w m t c v a)) (some (.int (-1000010 - nI 2))) (fbP P (mdZ (nI 0, nI 2) s g w m t c v a)) := by
  have e1 : (nI k).toNatClampNeg = k := nI_clamp (by omega)
  refine mj_C.of rfl rfl rfl ?_
  refine mj_b0 40 rfl ?_
  refine mj_hq (h' := (fbP P (mdZ (nI 0, U.2) s g w m t c v a))) rfl ?_
  refine mj_cS rfl rfl rfl rfl (m_isSheet (nI k)) ?_
  refine mj_b0 40 rfl ?_
  refine mj_brt (fun q => vB_0.mp q (ok7 hk)) ?_
  refine mj_b1 40 rfl (nI_ix hk (by omega)) ?_
  rw [e1]
  refine mj_hq (h' := fbP P (mdZ (nI 0, nI 0) s g w m t c v a)) rfl ?_
  refine mj_brt (hm) ?_
  refine mj_b1 40 rfl (nI_ix hk (by omega)) ?_
  rw [e1, hn]
  refine mj_cS rfl rfl rfl rfl (m_in32 i 0 (nI n - nI 1) (by decide) rfl) ?_
  refine mj_b0 40 rfl ?_
  refine mj_brf (fun q => q (vB_0.mpr (fun z => hb.elim z.1 (fun z2 => z.2 ((le_pred0 (by omega) i).mpr z2))))) ?_
  refine mj_b0 40 rfl ?_
  refine mj_cV rfl rfl rfl rfl rfl rfl (m_finding (nI 2)) ?_
  exact mj_end rfl rfl trivial ⟨rfl, rfl⟩
theorem m_set_ok {ln mn it : fA} {k n i : Nat} {y : Int32} (hk : k < 8) (hl : ln k = nI 0 ∨ ln k = nI 1 ∨ ln k = nI 2) (hn : mn k = nI n) (hn2 : n ≤ 60) (hi : i < n) : mj_C (d + 3) nX9_set [.ref 35, .int (nI k), .int (nI i), .int y] (fbP P (mdZ U (ln, mn, it) g w m t c v a)) (some (.int (nar (ln k) y))) (fbP P (mdZ (nI 0, nI 0) (ln, mn, upd it (k * 60 + i) (nar (ln k) y)) g w m t c v a)) := by
  have e1 : (nI k).toNatClampNeg = k := nI_clamp (by omega)
  have e2 : nI 60 * nI k + nI i = nI (k * 60 + i) := by rw [pk_mul, nI_add, Nat.mul_comm]
  have e3 : (nI (k * 60 + i)).toNatClampNeg = k * 60 + i := nI_clamp (by omega)
  have h0 : 0 ≤ ln k := by rcases hl with q | q | q <;> (rw [q]; decide)
  refine mj_C.of rfl rfl rfl ?_
  refine mj_b0 40 rfl ?_
  refine mj_hq (h' := fbP P (mdZ (nI 0, U.2) (ln, mn, it) g w m t c v a)) rfl ?_
  refine mj_cS rfl rfl rfl rfl (m_isSheet (nI k)) ?_
  refine mj_b0 40 rfl ?_
  refine mj_brt (fun q => vB_0.mp q (ok7 hk)) ?_
  refine mj_b1 40 rfl (nI_ix hk (by omega)) ?_
  rw [e1]
  refine mj_hq (h' := fbP P (mdZ (nI 0, nI 0) (ln, mn, it) g w m t c v a)) rfl ?_
  refine mj_brt (h0) ?_
  refine mj_b1 40 rfl (nI_ix hk (by omega)) ?_
  rw [e1, show (ln, mn, it).2.1 k = nI n from hn]
  refine mj_cS rfl rfl rfl rfl (m_in32 (nI i) 0 (nI n - nI 1) (by decide) rfl) ?_
  refine mj_b0 40 rfl ?_
  refine mj_brt (fun q => vB_0.mp q ⟨nI_pos (by omega), by rw [le_pred0 (by omega)]; exact nI_ge hi (by omega)⟩) ?_
  refine mj_b1 40 rfl (nI_ix hk (by omega)) ?_
  rw [e1]
  have fin : ∀ z, z = nar (ln k) y → mj_R (mj_C (d + 2)) 9 false (some .int) iX9_set (99, [some (.ref 35), some (.int (nI k)), some (.int (nI i)), some (.int y)], [.int z, .int (nI 60 * nI k + nI i), .ref 38], fbP P (mdZ (nI 0, nI 0) (ln, mn, it) g w m t c v a)) (fun r2 h2 => r2 = some (.int (nar (ln k) y)) ∧ h2 = fbP P (mdZ (nI 0, nI 0) (ln, mn, upd it (k * 60 + i) (nar (ln k) y)) g w m t c v a)) := by
    intro z hz
    rw [e2]
    refine mj_b1 1 rfl (nI_ix (show k * 60 + i < 480 by omega) (by omega)) ?_
    refine mj_hq (h' := fbP P (mdZ (nI 0, nI 0) (ln, mn, upd it (k * 60 + i) z) g w m t c v a)) (Eq.trans (b := fbP P (mdZ (nI 0, nI 0) (ln, mn, upd it (nI (k * 60 + i)).toNatClampNeg z) g w m t c v a)) rfl (by rw [e3])) ?_
    refine mj_b1 40 rfl (by show vp_in (nI 60 * nI k + nI i) 480; rw [e2]; exact nI_ix (by omega) (by omega)) ?_
    refine mj_end rfl rfl trivial ⟨?_, by rw [hz]⟩
    show some (Value.int (upd it (k * 60 + i) z (nI 60 * nI k + nI i).toNatClampNeg)) = _
    rw [e2, e3, pk_us, hz]
  rcases hl with q | q | q
  · refine mj_brf (fun z => z q) ?_
    refine mj_b0 3 rfl ?_
    exact fin y.toInt8.toInt32 (by rw [q]; rfl)
  · refine mj_brt (fun z => absurd (q.symm.trans z) (by decide)) ?_
    refine mj_b1 40 rfl (nI_ix hk (by omega)) ?_
    rw [e1]
    refine mj_brf (fun z => z q) ?_
    refine mj_b0 3 rfl ?_
    exact fin y.toInt16.toInt32 (by rw [q]; rfl)
  · refine mj_brt (fun z => absurd (q.symm.trans z) (by decide)) ?_
    refine mj_b1 40 rfl (nI_ix hk (by omega)) ?_
    rw [e1]
    refine mj_brt (fun z => absurd (q.symm.trans z) (by decide)) ?_
    refine mj_b0 1 rfl ?_
    exact fin y (by rw [q]; rfl)
end SCm
