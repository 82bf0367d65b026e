/-! promise 4, side by side -/
def cpd (f : fA) (sp dp n lo : Nat) : fA := fun q => if dp + lo ≤ q ∧ q < dp + n then f (sp + (q - dp)) else f q
theorem cpd_n (f : fA) (sp dp n : Nat) : cpd f sp dp n n = f := by
  funext q
  exact if_neg (by omega)
theorem cpd_0 (f : fA) (sp dp n : Nat) : cpd f sp dp n 0 = va_cpy f f sp dp n := by
  funext q
  rfl
theorem cpd_s {f : fA} {sp dp n lo : Nat} (hn : lo < n) (hd : sp ≤ dp ∨ sp + n ≤ dp ∨ dp + n ≤ sp) : upd (cpd f sp dp n (lo + 1)) (dp + lo) (cpd f sp dp n (lo + 1) (sp + lo)) = cpd f sp dp n lo := by
  have e : cpd f sp dp n (lo + 1) (sp + lo) = f (sp + lo) := if_neg (by omega)
  rw [e]
  funext q
  by_cases h : q = dp + lo
  · rw [h, pk_us]
    show _ = if _ then _ else _
    rw [if_pos (by omega), show sp + (dp + lo - dp) = sp + lo by omega]
  · rw [pk_un h]
    show (if _ then _ else _) = if _ then _ else _
    by_cases l : dp + (lo + 1) ≤ q ∧ q < dp + n
    · rw [if_pos l, if_pos (by omega)]
    · rw [if_neg l, if_neg (by omega)]
theorem cpu_0 (f : fA) (sp dp : Nat) : va_cpy f f sp dp 0 = f := by
  funext q
  exact pk_cpy_out (by omega)
theorem cpu_s {f : fA} {sp dp n k : Nat} (hn : k < n) (hd : dp ≤ sp ∨ sp + n ≤ dp ∨ dp + n ≤ sp) : upd (va_cpy f f sp dp k) (dp + k) (va_cpy f f sp dp k (sp + k)) = va_cpy f f sp dp (k + 1) := by
  have e : va_cpy f f sp dp k (sp + k) = f (sp + k) := pk_cpy_out (by omega)
  rw [e]
  funext q
  by_cases h : q = dp + k
  · rw [h, pk_us, pk_cpy_in (by omega) (by omega), show sp + (dp + k - dp) = sp + k by omega]
  · rw [pk_un h]
    by_cases l : dp ≤ q ∧ q < dp + k
    · rw [pk_cpy_in l.1 l.2, pk_cpy_in l.1 (by omega)]
    · rw [pk_cpy_out (by omega), pk_cpy_out (by omega)]
section CC
variable {sc : mj_E} {F : Int32 × Int32} {S : fA × fA × fA} {G : fG} {Y : fY} {M : fM} {T : fT} {C : fC} {V : fV} {A : fA × Int32} {Z : mj_H} {d : Nat}
theorem c_bring {it ln sz : fA} {k i l j n : Nat} (hk : k < 8) (hl : l < 8) (hi : i + n ≤ 60) (hj : j + n ≤ 60) : mj_C (d + 1) nX5_bring [.ref 2, .int (nI k), .int (nI i), .int (nI l), .int (nI j), .int (nI n)] (fbH sc F (it, ln, sz) G Y M T C V A Z) none (fbH sc F (va_cpy it it (k * 60 + i) (l * 60 + j) n, ln, sz) G Y M T C V A Z) := by
  have e1 : nI k * nI 60 + nI i = nI (k * 60 + i) := by rw [pk_mul, nI_add]
  have e2 : (nI (k * 60 + i)).toNatClampNeg = k * 60 + i := nI_clamp (by omega)
  have e3 : nI l * nI 60 + nI j = nI (l * 60 + j) := by rw [pk_mul, nI_add]
  have e4 : (nI (l * 60 + j)).toNatClampNeg = l * 60 + j := nI_clamp (by omega)
  have e5 : (nI n).toNatClampNeg = n := nI_clamp (by omega)
  refine mj_C.of rfl rfl rfl ?_
  refine mj_b1 40 rfl (by
    show ¬ nI k * nI 60 + nI i < 0 ∧ ¬ nI l * nI 60 + nI j < 0 ∧ ¬ nI n < 0 ∧ (nI k * nI 60 + nI i).toNatClampNeg + (nI n).toNatClampNeg ≤ 480 ∧ (nI l * nI 60 + nI j).toNatClampNeg + (nI n).toNatClampNeg ≤ 480
    rw [e1, e3, e2, e4, e5]
    exact ⟨nI_pos (by omega), nI_pos (by omega), nI_pos (by omega), by omega, by omega⟩) ?_
  refine mj_end rfl rfl trivial ⟨rfl, ?_⟩
  exact Eq.trans (b := fbH sc F (va_cpy it it (nI k * nI 60 + nI i).toNatClampNeg (nI l * nI 60 + nI j).toNatClampNeg (nI n).toNatClampNeg, ln, sz) G Y M T C V A Z) rfl (by rw [e1, e3, e2, e4, e5])
theorem c_copy_bad {x y i j n : Int32} (hb : ¬ ((¬ x < 0 ∧ ¬ nI 8 ≤ x) ∧ (¬ y < 0 ∧ ¬ nI 8 ≤ y))) : mj_C (d + 3) nX8_copy [.ref 1, .int x, .int i, .int y, .int j, .int n] (fbH sc F S G Y M T C V A Z) (some (.int BD)) (fbH sc F S G Y M T C V A Z) := by
  refine mj_C.of rfl rfl rfl ?_
  refine mj_b0 40 rfl ?_
  refine mj_cV rfl rfl rfl rfl rfl rfl (c_shas x) ?_
  refine mj_b0 40 rfl ?_
  by_cases q : (¬ x < 0 ∧ ¬ nI 8 ≤ x)
  · refine mj_brf (fun z => vB_0.mp z q) ?_
    refine mj_b0 40 rfl ?_
    refine mj_cV rfl rfl rfl rfl rfl rfl (c_shas y) ?_
    refine mj_b0 40 rfl ?_
    refine mj_brf (fun z => z (vB_0.mpr (fun q2 => hb ⟨q, q2⟩))) ?_
    refine mj_b0 40 rfl ?_
    exact mj_end rfl rfl trivial ⟨rfl, rfl⟩
  · refine mj_brt (vB_0.mpr q) ?_
    refine mj_b0 40 rfl ?_
    exact mj_end rfl rfl trivial ⟨rfl, rfl⟩
theorem c_copy_null {k l : Nat} {i j n : Int32} (hk : k < 8) (hl : l < 8) (hm : S.2.1 k = -(nI 1) ∨ S.2.1 l = -(nI 1)) : mj_C (d + 3) nX8_copy [.ref 1, .int (nI k), .int i, .int (nI l), .int j, .int n] (fbH sc F S G Y M T C V A Z) (some (.int (-1000010 - nI 1))) (fbH sc (nI 1, F.2) S G Y M T C V A Z) := by
  refine mj_C.of rfl rfl rfl ?_
  refine mj_b0 40 rfl ?_
  refine mj_cV rfl rfl rfl rfl rfl rfl (c_shas (nI k)) ?_
  refine mj_b0 40 rfl ?_
  refine mj_brf (fun z => vB_0.mp z (ok8 hk)) ?_
  refine mj_b0 40 rfl ?_
  refine mj_cV rfl rfl rfl rfl rfl rfl (c_shas (nI l)) ?_
  refine mj_b0 40 rfl ?_
  refine mj_brt (fun z => vB_0.mp z (ok8 hl)) ?_
  refine mj_b0 40 rfl ?_
  refine mj_cV rfl rfl rfl rfl rfl rfl (c_isMissing hk) ?_
  refine mj_b0 40 rfl ?_
  by_cases q : S.2.1 k = -(nI 1)
  · refine mj_brt (fun z => vB_0.mp z q) ?_
    refine mj_b0 40 rfl ?_
    refine mj_cV rfl rfl rfl rfl rfl rfl (c_finding (nI 1)) ?_
    exact mj_end rfl rfl trivial ⟨rfl, rfl⟩
  · refine mj_brf (fun z => z (vB_0.mpr q)) ?_
    refine mj_b0 40 rfl ?_
    refine mj_cV rfl rfl rfl rfl rfl rfl (c_isMissing hl) ?_
    refine mj_b0 40 rfl ?_
    refine mj_brf (fun z => vB_0.mp z (hm.resolve_left q)) ?_
    refine mj_b0 40 rfl ?_
    refine mj_cV rfl rfl rfl rfl rfl rfl (c_finding (nI 1)) ?_
    exact mj_end rfl rfl trivial ⟨rfl, rfl⟩
theorem c_copy_store {k l : Nat} {i j n : Int32} (hk : k < 8) (hl : l < 8) (h1 : S.2.1 k ≠ -(nI 1)) (h2 : S.2.1 l ≠ -(nI 1)) (h3 : ¬ S.2.1 k = S.2.1 l) : mj_C (d + 3) nX8_copy [.ref 1, .int (nI k), .int i, .int (nI l), .int j, .int n] (fbH sc F S G Y M T C V A Z) (some (.int (-1000010 - nI 5))) (fbH sc (nI 5, F.2) S G Y M T C V A Z) := by
  refine mj_C.of rfl rfl rfl ?_
  refine mj_b0 40 rfl ?_
  refine mj_cV rfl rfl rfl rfl rfl rfl (c_shas (nI k)) ?_
  refine mj_b0 40 rfl ?_
  refine mj_brf (fun z => vB_0.mp z (ok8 hk)) ?_
  refine mj_b0 40 rfl ?_
  refine mj_cV rfl rfl rfl rfl rfl rfl (c_shas (nI l)) ?_
  refine mj_b0 40 rfl ?_
  refine mj_brt (fun z => vB_0.mp z (ok8 hl)) ?_
  refine mj_b0 40 rfl ?_
  refine mj_cV rfl rfl rfl rfl rfl rfl (c_isMissing hk) ?_
  refine mj_b0 40 rfl ?_
  refine mj_brf (fun z => z (vB_0.mpr h1)) ?_
  refine mj_b0 40 rfl ?_
  refine mj_cV rfl rfl rfl rfl rfl rfl (c_isMissing hl) ?_
  refine mj_b0 40 rfl ?_
  refine mj_brt (vB_0.mpr h2) ?_
  refine mj_b0 40 rfl ?_
  refine mj_cV rfl rfl rfl rfl rfl rfl (c_oneLane hk hl) ?_
  refine mj_b0 40 rfl ?_
  refine mj_brf (fun z => z (vB_0.mpr h3)) ?_
  refine mj_b0 40 rfl ?_
  refine mj_cV rfl rfl rfl rfl rfl rfl (c_finding (nI 5)) ?_
  exact mj_end rfl rfl trivial ⟨rfl, rfl⟩
theorem c_copy_place {k l : Nat} {i j n : Int32} (hk : k < 8) (hl : l < 8) (h1 : S.2.1 k ≠ -(nI 1)) (h2 : S.2.1 l ≠ -(nI 1)) (h3 : S.2.1 k = S.2.1 l) (hb : ¬ ((¬ i < 0 ∧ ¬ n < 0 ∧ ¬ S.2.2 k < i ∧ ¬ S.2.2 k - i < n) ∧ (¬ j < 0 ∧ ¬ n < 0 ∧ ¬ S.2.2 l < j ∧ ¬ S.2.2 l - j < n))) : mj_C (d + 3) nX8_copy [.ref 1, .int (nI k), .int i, .int (nI l), .int j, .int n] (fbH sc F S G Y M T C V A Z) (some (.int (-1000010 - nI 2))) (fbH sc (nI 2, F.2) S G Y M T C V A Z) := by
  refine mj_C.of rfl rfl rfl ?_
  refine mj_b0 40 rfl ?_
  refine mj_cV rfl rfl rfl rfl rfl rfl (c_shas (nI k)) ?_
  refine mj_b0 40 rfl ?_
  refine mj_brf (fun z => vB_0.mp z (ok8 hk)) ?_
  refine mj_b0 40 rfl ?_
  refine mj_cV rfl rfl rfl rfl rfl rfl (c_shas (nI l)) ?_
  refine mj_b0 40 rfl ?_
  refine mj_brt (fun z => vB_0.mp z (ok8 hl)) ?_
  refine mj_b0 40 rfl ?_
  refine mj_cV rfl rfl rfl rfl rfl rfl (c_isMissing hk) ?_
  refine mj_b0 40 rfl ?_
  refine mj_brf (fun z => z (vB_0.mpr h1)) ?_
  refine mj_b0 40 rfl ?_
  refine mj_cV rfl rfl rfl rfl rfl rfl (c_isMissing hl) ?_
  refine mj_b0 40 rfl ?_
  refine mj_brt (vB_0.mpr h2) ?_
  refine mj_b0 40 rfl ?_
  refine mj_cV rfl rfl rfl rfl rfl rfl (c_oneLane hk hl) ?_
  refine mj_b0 40 rfl ?_
  refine mj_brt (fun z => vB_0.mp z h3) ?_
  refine mj_b0 40 rfl ?_
  refine mj_cV rfl rfl rfl rfl rfl rfl (c_holds hk i n) ?_
  refine mj_b0 40 rfl ?_
  by_cases q : (¬ i < 0 ∧ ¬ n < 0 ∧ ¬ S.2.2 k < i ∧ ¬ S.2.2 k - i < n)
  · refine mj_brf (fun z => vB_0.mp z q) ?_
    refine mj_b0 40 rfl ?_
    refine mj_cV rfl rfl rfl rfl rfl rfl (c_holds hl j n) ?_
    refine mj_b0 40 rfl ?_
    refine mj_brf (fun z => z (vB_0.mpr (fun q2 => hb ⟨q, q2⟩))) ?_
    refine mj_b0 40 rfl ?_
    refine mj_cV rfl rfl rfl rfl rfl rfl (c_finding (nI 2)) ?_
    exact mj_end rfl rfl trivial ⟨rfl, rfl⟩
  · refine mj_brt (vB_0.mpr q) ?_
    refine mj_b0 40 rfl ?_
    refine mj_cV rfl rfl rfl rfl rfl rfl (c_finding (nI 2)) ?_
    exact mj_end rfl rfl trivial ⟨rfl, rfl⟩
theorem c_copy_ok {it ln sz : fA} {k l i j n : Nat} (hk : k < 8) (hl : l < 8) (h1 : ln k ≠ -(nI 1)) (h2 : ln l ≠ -(nI 1)) (h3 : ln k = ln l) (hi : i + n ≤ 60) (hj : j + n ≤ 60) (q1 : ¬ nI i < 0 ∧ ¬ nI n < 0 ∧ ¬ sz k < nI i ∧ ¬ sz k - nI i < nI n) (q2 : ¬ nI j < 0 ∧ ¬ nI n < 0 ∧ ¬ sz l < nI j ∧ ¬ sz l - nI j < nI n) : mj_C (d + 3) nX8_copy [.ref 1, .int (nI k), .int (nI i), .int (nI l), .int (nI j), .int (nI n)] (fbH sc F (it, ln, sz) G Y M T C V A Z) (some (.int (nI n))) (fbH sc (nI 0, F.2) (va_cpy it it (k * 60 + i) (l * 60 + j) n, ln, sz) G Y M T C V A Z) := by
  refine mj_C.of rfl rfl rfl ?_
  refine mj_b0 40 rfl ?_
  refine mj_cV rfl rfl rfl rfl rfl rfl (c_shas (nI k)) ?_
  refine mj_b0 40 rfl ?_
  refine mj_brf (fun z => vB_0.mp z (ok8 hk)) ?_
  refine mj_b0 40 rfl ?_
  refine mj_cV rfl rfl rfl rfl rfl rfl (c_shas (nI l)) ?_
  refine mj_b0 40 rfl ?_
  refine mj_brt (fun z => vB_0.mp z (ok8 hl)) ?_
  refine mj_b0 40 rfl ?_
  refine mj_cV rfl rfl rfl rfl rfl rfl (c_isMissing hk) ?_
  refine mj_b0 40 rfl ?_
  refine mj_brf (fun z => z (vB_0.mpr h1)) ?_
  refine mj_b0 40 rfl ?_
  refine mj_cV rfl rfl rfl rfl rfl rfl (c_isMissing hl) ?_
  refine mj_b0 40 rfl ?_
  refine mj_brt (vB_0.mpr h2) ?_
  refine mj_b0 40 rfl ?_
  refine mj_cV rfl rfl rfl rfl rfl rfl (c_oneLane hk hl) ?_
  refine mj_b0 40 rfl ?_
  refine mj_brt (fun z => vB_0.mp z h3) ?_
  refine mj_b0 40 rfl ?_
  refine mj_cV rfl rfl rfl rfl rfl rfl (c_holds hk (nI i) (nI n)) ?_
  refine mj_b0 40 rfl ?_
  refine mj_brf (fun z => vB_0.mp z q1) ?_
  refine mj_b0 40 rfl ?_
  refine mj_cV rfl rfl rfl rfl rfl rfl (c_holds hl (nI j) (nI n)) ?_
  refine mj_b0 40 rfl ?_
  refine mj_brt (fun z => vB_0.mp z q2) ?_
  refine mj_b0 40 rfl ?_
  refine mj_cV rfl rfl rfl rfl rfl rfl (c_bring hk hl hi hj) ?_
  refine mj_b0 40 rfl ?_
  refine mj_cV rfl rfl rfl rfl rfl rfl (c_sound _) ?_
  exact mj_end rfl rfl trivial ⟨rfl, rfl⟩
end CC
/-- a local that is first written in a loop's body -/
def lo8 (f : Nat → Int32) : Nat → Option Value
  | 0 => none
  | q + 1 => some (.int (f q))
section CCm
variable {P : fP} {U : fU} {s : fA × fA × fA} {g : fG} {w : fW} {m : fM} {t : fR} {c : fA × fA × fA} {v : fA × fA} {a : fA × Int32} {d : Nat}
theorem m_copy_bad {x y i j n : Int32} (hb : ¬ ((¬ x < 0 ∧ ¬ 7 < x) ∧ (¬ y < 0 ∧ ¬ 7 < y))) : mj_C (d + 3) nX9_copy [.ref 35, .int x, .int i, .int y, .int j, .int n] (fbP P (mdZ U s g w m t c v a)) (some (.int BD)) (fbP P (mdZ (nI 0, U.2) s g w m t c v a)) := by
  refine mj_C.of rfl rfl rfl ?_
  refine mj_b0 40 rfl ?_
  refine mj_hq (h' := (fbP P (mdZ (nI 0, U.2) s g w m t c v a))) rfl ?_
  refine mj_cS rfl rfl rfl rfl (m_isSheet x) ?_
  refine mj_b0 40 rfl ?_
  by_cases q : (¬ x < 0 ∧ ¬ 7 < x)
  · refine mj_brf (fun z => vB_0.mp z q) ?_
    refine mj_b0 40 rfl ?_
    refine mj_cS rfl rfl rfl rfl (m_isSheet y) ?_
    refine mj_b0 40 rfl ?_
    refine mj_brf (fun z => z (vB_0.mpr (fun q2 => hb ⟨q, q2⟩))) ?_
    refine mj_b0 40 rfl ?_
    exact mj_end rfl rfl trivial ⟨rfl, rfl⟩
  · refine mj_brt (vB_0.mpr q) ?_
    refine mj_b0 40 rfl ?_
    exact mj_end rfl rfl trivial ⟨rfl, rfl⟩
theorem neg1_lt {x : Int32} (h : x = -(nI 1)) : x < 0 := by rw [h]; decide
theorem nlt0 {x : Int32} (h : 0 ≤ x) : ¬ x < 0 := by
  intro q
  rw [Int32.le_iff_toInt_le] at h
  rw [Int32.lt_iff_toInt_lt] at q
  omega
theorem m_copy_null {k l : Nat} {i j n : Int32} (hk : k < 8) (hl : l < 8) (hm : s.1 k = -(nI 1) ∨ (0 ≤ s.1 k ∧ s.1 l = -(nI 1))) : mj_C (d + 3) nX9_copy [.ref 35, .int (nI k), .int i, .int (nI l), .int j, .int n] (fbP P (mdZ U s g w m t c v a)) (some (.int (-1000010 - nI 1))) (fbP P (mdZ (nI 0, nI 1) s g w m t c v a)) := by
  have e1 : (nI k).toNatClampNeg = k := nI_clamp (by omega)
  have e2 : (nI l).toNatClampNeg = l := nI_clamp (by omega)
  refine mj_C.of rfl rfl rfl ?_
  refine mj_b0 40 rfl ?_
  refine mj_hq (h' := (fbP P (mdZ (nI 0, U.2) s g w m t c v a))) rfl ?_
  refine mj_cS rfl rfl rfl rfl (m_isSheet (nI k)) ?_
  refine mj_b0 40 rfl ?_
  refine mj_brf (fun z => vB_0.mp z (ok7 hk)) ?_
  refine mj_b0 40 rfl ?_
  refine mj_cS rfl rfl rfl rfl (m_isSheet (nI l)) ?_
  refine mj_b0 40 rfl ?_
  refine mj_brt (fun z => vB_0.mp z (ok7 hl)) ?_
  refine mj_b1 40 rfl (nI_ix hk (by omega)) ?_
  rw [e1]
  refine mj_hq (h' := fbP P (mdZ (nI 0, nI 0) s g w m t c v a)) rfl ?_
  rcases hm with q | ⟨q0, q⟩
  · refine mj_brt (neg1_lt q) ?_
    refine mj_b0 40 rfl ?_
    refine mj_cV rfl rfl rfl rfl rfl rfl (m_finding (nI 1)) ?_
    exact mj_end rfl rfl trivial ⟨rfl, rfl⟩
  · refine mj_brf (nlt0 q0) ?_
    refine mj_b1 40 rfl (nI_ix hl (by omega)) ?_
    rw [e2, q]
    refine mj_brf (show ¬ (0 ≤ -(nI 1)) by decide) ?_
    refine mj_b0 40 rfl ?_
    refine mj_cV rfl rfl rfl rfl rfl rfl (m_finding (nI 1)) ?_
    exact mj_end rfl rfl trivial ⟨rfl, rfl⟩
theorem m_copy_store {k l : Nat} {i j n : Int32} (hk : k < 8) (hl : l < 8) (h1 : 0 ≤ s.1 k) (h2 : 0 ≤ s.1 l) (h3 : ¬ s.1 k = s.1 l) : mj_C (d + 3) nX9_copy [.ref 35, .int (nI k), .int i, .int (nI l), .int j, .int n] (fbP P (mdZ U s g w m t c v a)) (some (.int (-1000010 - nI 5))) (fbP P (mdZ (nI 0, nI 5) s g w m t c v a)) := by
  have e1 : (nI k).toNatClampNeg = k := nI_clamp (by omega)
  have e2 : (nI l).toNatClampNeg = l := nI_clamp (by omega)
  refine mj_C.of rfl rfl rfl ?_
  refine mj_b0 40 rfl ?_
  refine mj_hq (h' := (fbP P (mdZ (nI 0, U.2) s g w m t c v a))) rfl ?_
  refine mj_cS rfl rfl rfl rfl (m_isSheet (nI k)) ?_
  refine mj_b0 40 rfl ?_
  refine mj_brf (fun z => vB_0.mp z (ok7 hk)) ?_
  refine mj_b0 40 rfl ?_
  refine mj_cS rfl rfl rfl rfl (m_isSheet (nI l)) ?_
  refine mj_b0 40 rfl ?_
  refine mj_brt (fun z => vB_0.mp z (ok7 hl)) ?_
  refine mj_b1 40 rfl (nI_ix hk (by omega)) ?_
  rw [e1]
  refine mj_hq (h' := fbP P (mdZ (nI 0, nI 0) s g w m t c v a)) rfl ?_
  refine mj_brf (nlt0 h1) ?_
  refine mj_b1 40 rfl (nI_ix hl (by omega)) ?_
  rw [e2]
  refine mj_brt (h2) ?_
  refine mj_b1 40 rfl (⟨nI_ix hk (by omega), nI_ix hl (by omega)⟩) ?_
  rw [e1, e2]
  refine mj_brf (h3) ?_
  refine mj_b0 40 rfl ?_
  refine mj_cV rfl rfl rfl rfl rfl rfl (m_finding (nI 5)) ?_
  exact mj_end rfl rfl trivial ⟨rfl, rfl⟩
theorem m_copy_place {k l na nb : Nat} {i j n : Int32} (hk : k < 8) (hl : l < 8) (h1 : 0 ≤ s.1 k) (h2 : 0 ≤ s.1 l) (h3 : s.1 k = s.1 l) (hna : s.2.1 k = nI na) (hnb : s.2.1 l = nI nb) (h4 : na ≤ 60) (h5 : nb ≤ 60) (hb : ¬ ∃ i' j' n' : Nat, i = nI i' ∧ j = nI j' ∧ n = nI n' ∧ i' + n' ≤ na ∧ j' + n' ≤ nb) : mj_C (d + 3) nX9_copy [.ref 35, .int (nI k), .int i, .int (nI l), .int j, .int n] (fbP P (mdZ U s g w m t c v a)) (some (.int (-1000010 - nI 2))) (fbP P (mdZ (nI 0, nI 2) s g w m t c v a)) := by
  have e1 : (nI k).toNatClampNeg = k := nI_clamp (by omega)
  have e2 : (nI l).toNatClampNeg = l := nI_clamp (by omega)
  refine mj_C.of rfl rfl rfl ?_
  refine mj_b0 40 rfl ?_
  refine mj_hq (h' := (fbP P (mdZ (nI 0, U.2) s g w m t c v a))) rfl ?_
  refine mj_cS rfl rfl rfl rfl (m_isSheet (nI k)) ?_
  refine mj_b0 40 rfl ?_
  refine mj_brf (fun z => vB_0.mp z (ok7 hk)) ?_
  refine mj_b0 40 rfl ?_
  refine mj_cS rfl rfl rfl rfl (m_isSheet (nI l)) ?_
  refine mj_b0 40 rfl ?_
  refine mj_brt (fun z => vB_0.mp z (ok7 hl)) ?_
  refine mj_b1 40 rfl (nI_ix hk (by omega)) ?_
  rw [e1]
  refine mj_hq (h' := fbP P (mdZ (nI 0, nI 0) s g w m t c v a)) rfl ?_
  refine mj_brf (nlt0 h1) ?_
  refine mj_b1 40 rfl (nI_ix hl (by omega)) ?_
  rw [e2]
  refine mj_brt (h2) ?_
  refine mj_b1 40 rfl (⟨nI_ix hk (by omega), nI_ix hl (by omega)⟩) ?_
  rw [e1, e2]
  refine mj_brt (h3) ?_
  refine mj_b0 40 rfl ?_
  have fin : mj_R (mj_C (d + 2)) 9 false (some .int) iX9_copy (121, [some (.ref 35), some (.int (nI k)), some (.int i), some (.int (nI l)), some (.int j), some (.int n), none, none, none], [], fbP P (mdZ (nI 0, nI 0) s g w m t c v a)) (fun r2 h2 => r2 = some (.int (-1000010 - nI 2)) ∧ h2 = fbP P (mdZ (nI 0, nI 2) s g w m t c v a)) := by
    refine mj_b0 40 rfl ?_
    refine mj_cV rfl rfl rfl rfl rfl rfl (m_finding (nI 2)) ?_
    exact mj_end rfl rfl trivial ⟨rfl, rfl⟩
  refine mj_br (fun q1 => ?_) (fun q1 => ?_)
  · exact fin
  refine mj_b0 40 rfl ?_
  refine mj_br (fun q2 => ?_) (fun q2 => ?_)
  · exact fin
  refine mj_b0 40 rfl ?_
  refine mj_br (fun q3 => ?_) (fun q3 => ?_)
  · exact fin
  obtain ⟨i', hi', rfl⟩ := nI_of q1
  obtain ⟨j', hj', rfl⟩ := nI_of q2
  obtain ⟨n', hn', rfl⟩ := nI_of q3
  refine mj_b1 40 rfl (nI_ix hk (by omega)) ?_
  rw [e1, hna, i64_add hi' hn', nI_l (show na < 2 ^ 31 by omega)]
  refine mj_br (fun q4 => ?_) (fun q4 => ?_)
  · exact fin
  refine mj_b1 40 rfl (nI_ix hl (by omega)) ?_
  rw [e2, hnb, i64_add hj' hn', nI_l (show nb < 2 ^ 31 by omega)]
  refine mj_br (fun q5 => ?_) (fun q5 => ?_)
  · refine absurd ⟨i', j', n', rfl, rfl, rfl, ?_, ?_⟩ hb
    · have z : ¬ lN na < lN (i' + n') := fun q => q4 ((lg_cmp_gt _ _).mpr q)
      rw [pk_lLT (by omega) (by omega)] at z
      omega
    · have z := (lg_cmp_le _ _).mp q5
      rw [pk_lLE (by omega) (by omega)] at z
      omega
  · exact fin
set_option maxRecDepth 20000 in
theorem m_copy_ok {ln mn it : fA} {k l na nb i j n : Nat} (hk : k < 8) (hl : l < 8) (h1 : 0 ≤ ln k) (h2 : 0 ≤ ln l) (h3 : ln k = ln l) (hna : mn k = nI na) (hnb : mn l = nI nb) (h4 : na ≤ 60) (h5 : nb ≤ 60) (hi : i + n ≤ na) (hj : j + n ≤ nb) : mj_C (d + 3) nX9_copy [.ref 35, .int (nI k), .int (nI i), .int (nI l), .int (nI j), .int (nI n)] (fbP P (mdZ U (ln, mn, it) g w m t c v a)) (some (.int (nI n))) (fbP P (mdZ (nI 0, nI 0) (ln, mn, va_cpy it it (k * 60 + i) (l * 60 + j) n) g w m t c v a)) := by
  have e1 : (nI k).toNatClampNeg = k := nI_clamp (by omega)
  have e2 : (nI l).toNatClampNeg = l := nI_clamp (by omega)
  have hd : (i < j ∨ j ≤ i) := by omega
  refine mj_C.of rfl rfl rfl ?_
  refine mj_b0 40 rfl ?_
  refine mj_hq (h' := fbP P (mdZ (nI 0, U.2) (ln, mn, it) g w m t c v a)) rfl ?_
  refine mj_cS rfl rfl rfl rfl (m_isSheet (nI k)) ?_
  refine mj_b0 40 rfl ?_
  refine mj_brf (fun z => vB_0.mp z (ok7 hk)) ?_
  refine mj_b0 40 rfl ?_
  refine mj_cS rfl rfl rfl rfl (m_isSheet (nI l)) ?_
  refine mj_b0 40 rfl ?_
  refine mj_brt (fun z => vB_0.mp z (ok7 hl)) ?_
  refine mj_b1 40 rfl (nI_ix hk (by omega)) ?_
  rw [e1]
  refine mj_hq (h' := fbP P (mdZ (nI 0, nI 0) (ln, mn, it) g w m t c v a)) rfl ?_
  refine mj_brf (nlt0 h1) ?_
  refine mj_b1 40 rfl (nI_ix hl (by omega)) ?_
  rw [e2]
  refine mj_brt (h2) ?_
  refine mj_b1 40 rfl (⟨nI_ix hk (by omega), nI_ix hl (by omega)⟩) ?_
  rw [e1, e2]
  refine mj_brt (h3) ?_
  refine mj_b0 40 rfl ?_
  refine mj_brf (nI_pos (by omega)) ?_
  refine mj_b0 40 rfl ?_
  refine mj_brf (nI_pos (by omega)) ?_
  refine mj_b0 40 rfl ?_
  refine mj_brf (nI_pos (by omega)) ?_
  refine mj_b1 40 rfl (nI_ix hk (by omega)) ?_
  rw [e1, show (ln, mn, it).2.1 k = nI na from hna, i64_add (by omega) (by omega), nI_l (show na < 2 ^ 31 by omega)]
  refine mj_brf (fun q => by
    have z := (lg_cmp_gt _ _).mp q
    rw [pk_lLT (by omega) (by omega)] at z
    omega) ?_
  refine mj_b1 40 rfl (nI_ix hl (by omega)) ?_
  rw [e2, show (ln, mn, it).2.1 l = nI nb from hnb, i64_add (by omega) (by omega), nI_l (show nb < 2 ^ 31 by omega)]
  refine mj_brt ((lg_cmp_le _ _).mpr ((pk_lLE (by omega) (by omega)).mpr (by omega))) ?_
  refine mj_b0 40 rfl ?_
  have ix : ∀ x y z : Nat, nI 60 * nI x + nI y + nI z = nI (x * 60 + y + z) := fun x y z => by rw [pk_mul, nI_add, nI_add, Nat.mul_comm]
  rcases hd with hd | hd
  · refine mj_brt (nI_lt hd (by omega)) ?_
    refine mj_b0 4 rfl ?_
    have hdd : k * 60 + i ≤ l * 60 + j ∨ k * 60 + i + n ≤ l * 60 + j ∨ l * 60 + j + n ≤ k * 60 + i := by
      rcases Nat.lt_trichotomy k l with q | q | q
      · omega
      · subst q; omega
      · omega
    refine mj_hq (h' := fbP P (mdZ (nI 0, nI 0) (ln, mn, cpd it (k * 60 + i) (l * 60 + j) n (n - 0)) g w m t c v a)) (by rw [Nat.sub_zero, cpd_n]) ?_
    refine mj_iter (fun q => (143, [some (.ref 35), some (.int (nI k)), some (.int (nI i)), some (.int (nI l)), some (.int (nI j)), some (.int (nI n)), some (.int (nI 0)), some (.int (nI q)), lo8 (fun q => nI (n - 1 - q)) q], [], fbP P (mdZ (nI 0, nI 0) (ln, mn, cpd it (k * 60 + i) (l * 60 + j) n (n - q)) g w m t c v a))) n (fun q hq ih => ?_) ?_
    · have e5 : nI n - nI 1 - nI q = nI (n - 1 - q) := by rw [pk_sub (by omega), pk_sub (by omega)]
      have e6 : (nI (k * 60 + i + (n - 1 - q))).toNatClampNeg = k * 60 + i + (n - 1 - q) := nI_clamp (by omega)
      have e7 : (nI (l * 60 + j + (n - 1 - q))).toNatClampNeg = l * 60 + j + (n - 1 - q) := nI_clamp (by omega)
      refine mj_b0 40 rfl ?_
      refine mj_brf (nI_ge hq (by omega)) ?_
      refine mj_b0 40 rfl ?_
      refine mj_brt (show nI 0 = 0 from rfl) ?_
      refine mj_b0 5 rfl ?_
      refine mj_sq (S' := (167, [some (.ref 35), some (.int (nI k)), some (.int (nI i)), some (.int (nI l)), some (.int (nI j)), some (.int (nI n)), some (.int (nI 0)), some (.int (nI q)), lo8 (fun q => nI (n - 1 - q)) q], [.int (nI (n - 1 - q))], fbP P (mdZ (nI 0, nI 0) (ln, mn, cpd it (k * 60 + i) (l * 60 + j) n (n - q)) g w m t c v a))) (by rw [← e5]; rfl) ?_
      refine mj_b1 21 rfl (by
        show vp_in (nI 60 * nI k + nI i + nI (n - 1 - q)) 480 ∧ vp_in (nI 60 * nI l + nI j + nI (n - 1 - q)) 480
        rw [ix, ix]
        exact ⟨nI_ix (by omega) (by omega), nI_ix (by omega) (by omega)⟩) ?_
      refine mj_hq (h' := fbP P (mdZ (nI 0, nI 0) (ln, mn, cpd it (k * 60 + i) (l * 60 + j) n (n - (q + 1))) g w m t c v a)) (Eq.trans (b := fbP P (mdZ (nI 0, nI 0) (ln, mn, upd (cpd it (k * 60 + i) (l * 60 + j) n (n - q)) (nI 60 * nI l + nI j + nI (n - 1 - q)).toNatClampNeg (cpd it (k * 60 + i) (l * 60 + j) n (n - q) (nI 60 * nI k + nI i + nI (n - 1 - q)).toNatClampNeg)) g w m t c v a)) rfl (by
        rw [ix, ix, e6, e7, show n - q = n - (q + 1) + 1 by omega, show n - 1 - q = n - (q + 1) by omega, cpd_s (by omega) hdd])) ?_
      refine mj_b0 2 rfl ?_
      rw [← nI_add q 1] at ih
      exact ih
    · refine mj_b0 40 rfl ?_
      refine mj_brt (nI_le (by omega) (by omega)) ?_
      refine mj_b0 40 rfl ?_
      exact mj_end rfl rfl trivial ⟨rfl, by rw [Nat.sub_self, cpd_0]⟩
  · refine mj_brf (nI_nlt hd (by omega)) ?_
    refine mj_b0 5 rfl ?_
    have hdd : l * 60 + j ≤ k * 60 + i ∨ k * 60 + i + n ≤ l * 60 + j ∨ l * 60 + j + n ≤ k * 60 + i := by
      rcases Nat.lt_trichotomy k l with q | q | q
      · omega
      · subst q; omega
      · omega
    refine mj_hq (h' := fbP P (mdZ (nI 0, nI 0) (ln, mn, va_cpy it it (k * 60 + i) (l * 60 + j) 0) g w m t c v a)) (by rw [cpu_0]) ?_
    refine mj_iter (fun q => (143, [some (.ref 35), some (.int (nI k)), some (.int (nI i)), some (.int (nI l)), some (.int (nI j)), some (.int (nI n)), some (.int (nI 1)), some (.int (nI q)), lo8 (fun q => nI q) q], [], fbP P (mdZ (nI 0, nI 0) (ln, mn, va_cpy it it (k * 60 + i) (l * 60 + j) q) g w m t c v a))) n (fun q hq ih => ?_) ?_
    · have e6 : (nI (k * 60 + i + q)).toNatClampNeg = k * 60 + i + q := nI_clamp (by omega)
      have e7 : (nI (l * 60 + j + q)).toNatClampNeg = l * 60 + j + q := nI_clamp (by omega)
      refine mj_b0 40 rfl ?_
      refine mj_brf (nI_ge hq (by omega)) ?_
      refine mj_b0 40 rfl ?_
      refine mj_brf (show ¬ nI 1 = 0 by decide) ?_
      refine mj_b1 23 rfl (by
        show vp_in (nI 60 * nI k + nI i + nI q) 480 ∧ vp_in (nI 60 * nI l + nI j + nI q) 480
        rw [ix, ix]
        exact ⟨nI_ix (by omega) (by omega), nI_ix (by omega) (by omega)⟩) ?_
      refine mj_hq (h' := fbP P (mdZ (nI 0, nI 0) (ln, mn, va_cpy it it (k * 60 + i) (l * 60 + j) (q + 1)) g w m t c v a)) (Eq.trans (b := fbP P (mdZ (nI 0, nI 0) (ln, mn, upd (va_cpy it it (k * 60 + i) (l * 60 + j) q) (nI 60 * nI l + nI j + nI q).toNatClampNeg (va_cpy it it (k * 60 + i) (l * 60 + j) q (nI 60 * nI k + nI i + nI q).toNatClampNeg)) g w m t c v a)) rfl (by
        rw [ix, ix, e6, e7, cpu_s hq hdd])) ?_
      refine mj_b0 2 rfl ?_
      rw [← nI_add q 1] at ih
      exact ih
    · refine mj_b0 40 rfl ?_
      refine mj_brt (nI_le (by omega) (by omega)) ?_
      refine mj_b0 40 rfl ?_
      exact mj_end rfl rfl trivial ⟨rfl, rfl⟩
end CCm
theorem ShR.copy {it ln sz mln mn mit : fA} {k l i j n na nb : Nat} (hk : k < 8) (hl : l < 8) (hka : mn k = nI na) (hlb : mn l = nI nb) (h4 : na ≤ 60) (h5 : nb ≤ 60) (hi : i + n ≤ na) (hj : j + n ≤ nb) (hm : mln k ≠ -(nI 1)) (h : ShR (it, ln, sz) (mln, mn, mit)) : ShR (va_cpy it it (k * 60 + i) (l * 60 + j) n, ln, sz) (mln, mn, va_cpy mit mit (k * 60 + i) (l * 60 + j) n) := by
  intro x hx
  obtain ⟨h1, h2, n2, h3, h4', h5', h6⟩ := h x hx
  obtain ⟨-, -, n3, g3, -, g5, g6⟩ := h k hk
  have g5' : mn k = nI n3 := g5
  have e3 : n3 = na := (nI_eq (by omega) (by omega)).mp (g5'.symm.trans hka)
  subst e3
  refine ⟨h1, h2, n2, h3, h4', h5', fun q i2 hi2 => ?_⟩
  show va_cpy it it _ _ _ (x * 60 + i2) = va_cpy mit mit _ _ _ (x * 60 + i2)
  by_cases e : l * 60 + j ≤ x * 60 + i2 ∧ x * 60 + i2 < l * 60 + j + n
  · rw [pk_cpy_in e.1 e.2, pk_cpy_in e.1 e.2, show k * 60 + i + (x * 60 + i2 - (l * 60 + j)) = k * 60 + (i + (x * 60 + i2 - (l * 60 + j))) by omega]
    exact g6 hm _ (by omega)
  · rw [pk_cpy_out (by omega), pk_cpy_out (by omega)]
    exact h6 q i2 hi2
section SCp
variable {d : Nat}
theorem s_copy (x i y j n : Int32) : Sim (d + 3) nX8_copy nX9_copy [.int x, .int i, .int y, .int j, .int n] := by
  intro P z h
  obtain ⟨U, s, g, w, m, t, c, v, a⟩ := z
  obtain ⟨sc, F, S, G, Y, M, T, C, V, A⟩ := P
  by_cases hv : (¬ x < 0 ∧ ¬ nI 8 ≤ x) ∧ (¬ y < 0 ∧ ¬ nI 8 ≤ y)
  · rcases ix8 x with q | ⟨k, hk, rfl⟩
    · exact absurd hv.1 (no8 q)
    rcases ix8 y with q | ⟨l, hl, rfl⟩
    · exact absurd hv.2 (no8 q)
    obtain ⟨b, hb, h1, h2, h3, h4, h5, h6⟩ := id h
    obtain ⟨it, ln, sz⟩ := S
    obtain ⟨mln, mn, mit⟩ := s
    obtain ⟨a1, a2, na, a3, a4, a5, -⟩ := h5 k hk
    obtain ⟨b1, b2, nb, b3, b4, b5, -⟩ := h5 l hl
    have a1' : ln k = mln k := a1
    have b1' : ln l = mln l := b1
    have a4' : sz k = nI na := a4
    have b4' : sz l = nI nb := b4
    by_cases q1 : mln k = -(nI 1)
    · exact ⟨_, (sc, (nI 1, F.2), (it, ln, sz), G, Y, M, T, C, V, A), ((nI 0, nI 1), (mln, mn, mit), g, w, m, t, c, v, a), c_copy_null hk hl (Or.inl (Eq.trans a1 q1)), m_copy_null hk hl (Or.inl q1), ⟨b, hb, h1, h2, rfl, h4, h5, h6⟩⟩
    by_cases q2 : mln l = -(nI 1)
    · exact ⟨_, (sc, (nI 1, F.2), (it, ln, sz), G, Y, M, T, C, V, A), ((nI 0, nI 1), (mln, mn, mit), g, w, m, t, c, v, a), c_copy_null hk hl (Or.inr (Eq.trans b1 q2)), m_copy_null hk hl (Or.inr ⟨lane4 a2 q1, q2⟩), ⟨b, hb, h1, h2, rfl, h4, h5, h6⟩⟩
    have q1' : ln k ≠ -(nI 1) := fun z => q1 (Eq.trans a1.symm z)
    have q2' : ln l ≠ -(nI 1) := fun z => q2 (Eq.trans b1.symm z)
    by_cases q3 : mln k = mln l
    · have q3' : ln k = ln l := by rw [a1', b1', q3]
      by_cases q4 : ∃ i' j' n' : Nat, i = nI i' ∧ j = nI j' ∧ n = nI n' ∧ i' + n' ≤ na ∧ j' + n' ≤ nb
      · obtain ⟨i', j', n', rfl, rfl, rfl, q5, q6⟩ := q4
        refine ⟨_, (sc, (nI 0, F.2), _, G, Y, M, T, C, V, A), ((nI 0, nI 0), _, g, w, m, t, c, v, a), c_copy_ok hk hl q1' q2' q3' (i := i') (j := j') (n := n') (by omega) (by omega) ?_ ?_, m_copy_ok hk hl (lane4 a2 q1) (lane4 b2 q2) q3 a5 b5 a3 b3 q5 q6, ⟨b, hb, h1, h2, rfl, h4, ShR.copy hk hl a5 b5 a3 b3 q5 q6 q1 h5, h6⟩⟩
        · rw [a4', pk_sub (by omega)]
          exact ⟨nI_pos (by omega), nI_pos (by omega), nI_nlt (by omega) (by omega), nI_nlt (by omega) (by omega)⟩
        · rw [b4', pk_sub (by omega)]
          exact ⟨nI_pos (by omega), nI_pos (by omega), nI_nlt (by omega) (by omega), nI_nlt (by omega) (by omega)⟩
      · refine ⟨_, (sc, (nI 2, F.2), (it, ln, sz), G, Y, M, T, C, V, A), ((nI 0, nI 2), (mln, mn, mit), g, w, m, t, c, v, a), c_copy_place hk hl q1' q2' q3' ?_, m_copy_place hk hl (lane4 a2 q1) (lane4 b2 q2) q3 a5 b5 a3 b3 q4, ⟨b, hb, h1, h2, rfl, h4, h5, h6⟩⟩
        show ¬ ((¬ i < 0 ∧ ¬ n < 0 ∧ ¬ sz k < i ∧ ¬ sz k - i < n) ∧ (¬ j < 0 ∧ ¬ n < 0 ∧ ¬ sz l < j ∧ ¬ sz l - j < n))
        rw [a4', b4']
        rintro ⟨⟨z1, z2, z3, z4⟩, z5, -, z6, z7⟩
        obtain ⟨i', hi, rfl⟩ := nI_of z1
        obtain ⟨j', hj, rfl⟩ := nI_of z5
        obtain ⟨n', hn, rfl⟩ := nI_of z2
        have y1 : i' ≤ na := Nat.le_of_not_lt (fun z => z3 (nI_lt z hi))
        have y2 : j' ≤ nb := Nat.le_of_not_lt (fun z => z6 (nI_lt z hj))
        rw [pk_sub y1] at z4
        rw [pk_sub y2] at z7
        have y3 : n' ≤ na - i' := Nat.le_of_not_lt (fun z => z4 (nI_lt z hn))
        have y4 : n' ≤ nb - j' := Nat.le_of_not_lt (fun z => z7 (nI_lt z hn))
        exact q4 ⟨i', j', n', rfl, rfl, rfl, by omega, by omega⟩
    · exact ⟨_, (sc, (nI 5, F.2), (it, ln, sz), G, Y, M, T, C, V, A), ((nI 0, nI 5), (mln, mn, mit), g, w, m, t, c, v, a), c_copy_store hk hl q1' q2' (fun z => q3 (a1'.symm.trans (z.trans b1'))), m_copy_store hk hl (lane4 a2 q1) (lane4 b2 q2) q3, ⟨b, hb, h1, h2, rfl, h4, h5, h6⟩⟩
  · exact ⟨BD, (sc, F, S, G, Y, M, T, C, V, A), ((nI 0, U.2), s, g, w, m, t, c, v, a), c_copy_bad hv, m_copy_bad (by rw [← eq87, ← eq87]; exact hv), h.thrown⟩
end SCp
