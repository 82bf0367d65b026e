/-! drop, of both -/
abbrev BD : Int32 := -1000001
theorem ix8 (x : Int32) : (x < 0 ∨ nI 8 ≤ x) ∨ ∃ j : Nat, j < 8 ∧ x = nI j := by
  rcases pk_ix x (n := 8) (by omega) with h | h | h
  · exact Or.inl (Or.inl h)
  · exact Or.inl (Or.inr h)
  · exact Or.inr h
theorem no8 {x : Int32} (h : x < 0 ∨ nI 8 ≤ x) : ¬ (¬ x < 0 ∧ ¬ nI 8 ≤ x) := fun q => h.elim q.1 q.2
theorem no7 {x : Int32} (h : x < 0 ∨ nI 8 ≤ x) : ¬ (¬ x < 0 ∧ ¬ 7 < x) := fun q => h.elim q.1 (fun z => q.2 (by
  rw [Int32.lt_iff_toInt_lt]
  rw [Int32.le_iff_toInt_le] at z
  have e1 : (nI 8).toInt = 8 := by decide
  have e2 : (7 : Int32).toInt = 7 := by decide
  omega))
theorem ok8 {j : Nat} (h : j < 8) : ¬ nI j < 0 ∧ ¬ nI 8 ≤ nI j := ⟨nI_pos (by omega), nI_ge h (by omega)⟩
theorem ok7 {j : Nat} (h : j < 8) : ¬ nI j < 0 ∧ ¬ 7 < nI j := ⟨nI_pos (by omega), show ¬ nI 7 < nI j from nI_nlt (by omega) (by omega)⟩
section DR
variable {sc : mj_E} {F : Int32 × Int32} {S : fA × fA × fA} {G : fG} {Y : fY} {M : fM} {T : fT} {C : fC} {V : fV} {A : fA × Int32} {Z : mj_H} {d : Nat}
variable {P : fP} {U : fU} {s : fA × fA × fA} {g : fG} {w : fW} {m : fM} {t : fR} {c : fA × fA × fA} {v : fA × fA} {a : fA × Int32}
theorem c_drop_bad {x : Int32} (hx : x < 0 ∨ nI 8 ≤ x) : mj_C (d + 2) nX8_drop [.ref 1, .int x] (fbH sc F S G Y M T C V A Z) (some (.int BD)) (fbH sc F S G Y M T C V A Z) := by
  refine mj_C.of rfl rfl rfl ?_
  refine mj_b0 40 rfl ?_
  refine mj_cV rfl rfl rfl rfl rfl rfl (c_shas x) ?_
  refine mj_b0 40 rfl ?_
  refine mj_brf (fun q => q (vB_0.mpr (no8 hx))) ?_
  refine mj_b0 40 rfl ?_
  exact mj_end rfl rfl trivial ⟨rfl, rfl⟩
theorem c_drop_null {k : Nat} (hk : k < 8) (hm : S.2.1 k = -(nI 1)) : mj_C (d + 2) nX8_drop [.ref 1, .int (nI k)] (fbH sc F S G Y M T C V A Z) (some (.int (-1000010 - nI 1))) (fbH sc (nI 1, F.2) S G Y M T C V A Z) := by
  refine mj_C.of rfl rfl rfl ?_
  refine mj_b0 40 rfl ?_
  refine mj_cV rfl rfl rfl rfl rfl rfl (c_shas (nI k)) ?_
  refine mj_b0 40 rfl ?_
  refine mj_brt (fun q => vB_0.mp q (ok8 hk)) ?_
  refine mj_b0 40 rfl ?_
  refine mj_cV rfl rfl rfl rfl rfl rfl (c_isMissing hk) ?_
  refine mj_b0 40 rfl ?_
  refine mj_brf (fun q => vB_0.mp q hm) ?_
  refine mj_b0 40 rfl ?_
  refine mj_cV rfl rfl rfl rfl rfl rfl (c_finding (nI 1)) ?_
  exact mj_end rfl rfl trivial ⟨rfl, rfl⟩
theorem c_drop_ok {it ln sz : fA} {k : Nat} (hk : k < 8) (hm : ln k ≠ -(nI 1)) : mj_C (d + 2) nX8_drop [.ref 1, .int (nI k)] (fbH sc F (it, ln, sz) G Y M T C V A Z) (some (.int (sz k))) (fbH sc (nI 0, F.2) (it, upd ln k (-(nI 1)), sz) G Y M T C V A Z) := by
  refine mj_C.of rfl rfl rfl ?_
  refine mj_b0 40 rfl ?_
  refine mj_cV rfl rfl rfl rfl rfl rfl (c_shas (nI k)) ?_
  refine mj_b0 40 rfl ?_
  refine mj_brt (fun q => vB_0.mp q (ok8 hk)) ?_
  refine mj_b0 40 rfl ?_
  refine mj_cV rfl rfl rfl rfl rfl rfl (c_isMissing hk) ?_
  refine mj_b0 40 rfl ?_
  refine mj_brt (vB_0.mpr hm) ?_
  refine mj_b0 40 rfl ?_
  refine mj_cV rfl rfl rfl rfl rfl rfl (c_takeAway hk) ?_
  refine mj_cV rfl rfl rfl rfl rfl rfl (c_sound _) ?_
  exact mj_end rfl rfl trivial ⟨rfl, rfl⟩
theorem m_finding (x : Int32) : mj_C (d + 1) nX9_finding [.ref 35, .int x] (fbP P (mdZ U s g w m t c v a)) (some (.int (-1000010 - x))) (fbP P (mdZ (U.1, x) s g w m t c v a)) := by
  refine mj_C.of rfl rfl rfl ?_
  refine mj_b0 40 rfl ?_
  exact mj_end rfl rfl trivial ⟨rfl, rfl⟩
theorem m_drop_bad {x : Int32} (hx : x < 0 ∨ nI 8 ≤ x) : mj_C (d + 3) nX9_drop [.ref 35, .int x] (fbP P (mdZ U s g w m t c v a)) (some (.int BD)) (fbP P (mdZ (nI 0, U.2) s g w m t c v a)) := by
  refine mj_C.of rfl rfl rfl ?_
  refine mj_b0 40 rfl ?_
  refine mj_hq (h' := fbP P (mdZ (nI 0, U.2) s g w m t c v a)) rfl ?_
  refine mj_cS rfl rfl rfl rfl (m_isSheet x) ?_
  refine mj_b0 40 rfl ?_
  refine mj_brf (fun q => q (vB_0.mpr (no7 hx))) ?_
  refine mj_b0 40 rfl ?_
  exact mj_end rfl rfl trivial ⟨rfl, rfl⟩
theorem m_drop_null {k : Nat} (hk : k < 8) (hm : s.1 k < 0) : mj_C (d + 3) nX9_drop [.ref 35, .int (nI k)] (fbP P (mdZ U s g w m t c v a)) (some (.int (-1000010 - nI 1))) (fbP P (mdZ (nI 0, nI 1) s g w m t c v a)) := by
  have e1 : (nI k).toNatClampNeg = k := nI_clamp (by omega)
  refine mj_C.of rfl rfl rfl ?_
  refine mj_b0 40 rfl ?_
  refine mj_hq (h' := fbP P (mdZ (nI 0, U.2) s g w m t c v a)) rfl ?_
  refine mj_cS rfl rfl rfl rfl (m_isSheet (nI k)) ?_
  refine mj_b0 40 rfl ?_
  refine mj_brt (fun q => vB_0.mp q (ok7 hk)) ?_
  refine mj_b1 40 rfl (nI_ix hk (by omega)) ?_
  rw [e1]
  refine mj_hq (h' := fbP P (mdZ (nI 0, nI 0) s g w m t c v a)) rfl ?_
  refine mj_brf (fun q : 0 ≤ s.1 k => by
    rw [Int32.le_iff_toInt_le] at q
    rw [Int32.lt_iff_toInt_lt] at hm
    omega) ?_
  refine mj_b0 40 rfl ?_
  refine mj_cV rfl rfl rfl rfl rfl rfl (m_finding (nI 1)) ?_
  exact mj_end rfl rfl trivial ⟨rfl, rfl⟩
theorem m_drop_ok {ln mn it : fA} {k : Nat} (hk : k < 8) (hm : 0 ≤ ln k) : mj_C (d + 3) nX9_drop [.ref 35, .int (nI k)] (fbP P (mdZ U (ln, mn, it) g w m t c v a)) (some (.int (mn k))) (fbP P (mdZ (nI 0, nI 0) (upd ln k (-(nI 1)), mn, it) g w m t c v a)) := by
  have e1 : (nI k).toNatClampNeg = k := nI_clamp (by omega)
  refine mj_C.of rfl rfl rfl ?_
  refine mj_b0 40 rfl ?_
  refine mj_hq (h' := fbP P (mdZ (nI 0, U.2) (ln, mn, it) g w m t c v a)) rfl ?_
  refine mj_cS rfl rfl rfl rfl (m_isSheet (nI k)) ?_
  refine mj_b0 40 rfl ?_
  refine mj_brt (fun q => vB_0.mp q (ok7 hk)) ?_
  refine mj_b1 40 rfl (nI_ix hk (by omega)) ?_
  rw [e1]
  refine mj_hq (h' := fbP P (mdZ (nI 0, nI 0) (ln, mn, it) g w m t c v a)) rfl ?_
  refine mj_brt hm ?_
  refine mj_b1 40 rfl ⟨nI_ix hk (by omega), nI_ix hk (by omega)⟩ ?_
  refine mj_end rfl rfl trivial ⟨by rw [e1], ?_⟩
  exact Eq.trans (b := fbP P (mdZ (nI 0, nI 0) (upd ln (nI k).toNatClampNeg (-(nI 1)), mn, it) g w m t c v a)) rfl (by rw [e1])
end DR
