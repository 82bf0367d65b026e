/-! Ground: numbers read, cells added, sides laid -/
theorem mj_C.ex {d y own maxL : Nat} {ini : Bool} {ret : Option FieldType} {K : mj_K} {av : List Value} {h : mj_H} {Q : Option Value → mj_H → Prop} (h1 : mj_nth mj_tab y = some (own, maxL, ini, ret, K)) (h2 : Nat.ble (mj_argl av).length maxL = true) {ls0 : List (Option Value)} (h3 : mj_pad (mj_argl av) maxL = ls0) (k : mj_R (mj_C d) own ini ret K (0, ls0, [], h) Q) : ∃ r h', mj_C (d + 1) y av h r h' ∧ Q r h' := by
  subst h3
  obtain ⟨n, r, h', hn, hq⟩ := k
  exact ⟨r, h', ⟨own, maxL, ini, ret, K, n, h1, Nat.le_of_ble_eq_true h2, hn⟩, hq⟩
abbrev NO : Int32 := -1000000
theorem nI_ix {n N : Nat} (h : n < N) (hN : N < 2 ^ 31) : vp_in (nI n) N := vp_in_nI h hN
section GR2
variable {sc : mj_E} {F : Int32 × Int32} {S : fA × fA × fA} {G : fG} {Y : fY} {M : fM} {T : fT} {C : fC} {V : fV} {A : fA × Int32} {Z : mj_H} {d : Nat}
def iPar (G : fG) (c : Nat) : Nat := if gop G c = NO then (if gfp G c = NO then 0 else 1) else 2
theorem c_parentsOf {c : Nat} (hc : c < 400) : mj_C (d + 1) nX2_parentsOf [.ref 6, .int (nI c)] (fbH sc F S G Y M T C V A Z) (some (.int (nI (iPar G c)))) (fbH sc F S G Y M T C V A Z) := by
  have e2 : (nI c).toNatClampNeg = c := nI_clamp (by omega)
  refine mj_C.of rfl rfl rfl ?_
  refine mj_b1 40 rfl (nI_ix hc (by omega)) ?_
  rw [e2]
  refine mj_br (fun h1 => ?_) (fun h1 => ?_)
  · refine mj_b1 40 rfl (nI_ix hc (by omega)) ?_
    rw [e2]
    refine mj_br (fun h2 => ?_) (fun h2 => ?_)
    · refine mj_b0 40 rfl ?_
      exact mj_end rfl rfl trivial ⟨by unfold iPar; rw [if_pos h1, if_pos h2]; rfl, rfl⟩
    · refine mj_b0 40 rfl ?_
      exact mj_end rfl rfl trivial ⟨by unfold iPar; rw [if_pos h1, if_neg h2]; rfl, rfl⟩
  · refine mj_b0 40 rfl ?_
    exact mj_end rfl rfl trivial ⟨by unfold iPar; rw [if_neg h1]; rfl, rfl⟩
theorem c_ownOf {c : Nat} (hc : c < 400) : mj_C (d + 2) nX2_ownOf [.ref 6, .int (nI c)] (fbH sc F S G Y M T C V A Z) (some (.int (gsd G - nI 4 - nI (iPar G c)))) (fbH sc F S G Y M T C V A Z) := by
  refine mj_C.of rfl rfl rfl ?_
  refine mj_b0 40 rfl ?_
  refine mj_cV rfl rfl rfl rfl rfl rfl (c_parentsOf hc) ?_
  refine mj_b0 40 rfl ?_
  exact mj_end rfl rfl trivial ⟨rfl, rfl⟩
theorem c_behind {c k : Nat} (hc : c < 400) (hk : k < 6) (hr : gro G c = nI k) : mj_C (d + 1) nX2_behind [.ref 6, .int (nI c)] (fbH sc F S G Y M T C V A Z) (some (.int (if grs G (k + 1) ≤ nI (c + 1) then grs G k else nI (c + 1)))) (fbH sc F S G Y M T C V A Z) := by
  have e2 : (nI c).toNatClampNeg = c := nI_clamp (by omega)
  have e3 : (nI k).toNatClampNeg = k := nI_clamp (by omega)
  have e4 : (nI (k + 1)).toNatClampNeg = k + 1 := nI_clamp (by omega)
  have e5 : nI k + mj_kc 1 = nI (k + 1) := nI_add k 1
  have e6 : nI c + mj_kc 1 = nI (c + 1) := nI_add c 1
  refine mj_C.of rfl rfl rfl ?_
  refine mj_b1 5 rfl (nI_ix hc (by omega)) ?_
  rw [e2, hr]
  refine mj_b1 40 rfl (by show vp_in (nI k + mj_kc 1) 7; rw [e5]; exact nI_ix (by omega) (by omega)) ?_
  rw [e5, e4, e6]
  refine mj_br (fun h1 => ?_) (fun h1 => ?_)
  · refine mj_b1 40 rfl (nI_ix (by omega) (by omega)) ?_
    exact mj_end rfl rfl trivial ⟨by rw [if_pos h1, e3], rfl⟩
  · refine mj_b0 40 rfl ?_
    exact mj_end rfl rfl trivial ⟨by rw [if_neg h1, ← e6], rfl⟩
theorem c_ahead {c k : Nat} (hc : c < 400) (hk : k < 6) (hr : gro G c = nI k) : mj_C (d + 1) nX2_ahead [.ref 6, .int (nI c)] (fbH sc F S G Y M T C V A Z) (some (.int (if nI c ≤ grs G k then grs G (k + 1) - nI 1 else nI c - nI 1))) (fbH sc F S G Y M T C V A Z) := by
  have e2 : (nI c).toNatClampNeg = c := nI_clamp (by omega)
  have e3 : (nI k).toNatClampNeg = k := nI_clamp (by omega)
  have e4 : (nI (k + 1)).toNatClampNeg = k + 1 := nI_clamp (by omega)
  have e5 : nI k + mj_kc 1 = nI (k + 1) := nI_add k 1
  refine mj_C.of rfl rfl rfl ?_
  refine mj_b1 5 rfl (nI_ix hc (by omega)) ?_
  rw [e2, hr]
  refine mj_b1 40 rfl (nI_ix (by omega) (by omega)) ?_
  rw [e3]
  refine mj_br (fun h1 => ?_) (fun h1 => ?_)
  · refine mj_b1 40 rfl (by show vp_in (nI k + mj_kc 1) 7; rw [e5]; exact nI_ix (by omega) (by omega)) ?_
    rw [e5, e4]
    exact mj_end rfl rfl trivial ⟨by rw [if_pos h1]; rfl, rfl⟩
  · refine mj_b0 40 rfl ?_
    exact mj_end rfl rfl trivial ⟨by rw [if_neg h1]; rfl, rfl⟩
theorem c_addCell {ro fp op rs at_ : fA} {fo : fO} {sd rg : Int32} {n : Nat} (hn : n < 400) (x y z : Int32) : mj_C (d + 1) nX2_addCell [.ref 6, .int x, .int y, .int z] (fbH sc F S (ro, fp, op, rs, fo, at_, sd, rg, nI n) Y M T C V A Z) none (fbH sc F S (upd ro n x, upd fp n y, upd op n z, rs, fo, at_, sd, rg, nI (n + 1)) Y M T C V A Z) := by
  have e2 : (nI n).toNatClampNeg = n := nI_clamp (by omega)
  have hi : vp_in (nI n) 400 := nI_ix hn (by omega)
  refine mj_C.of rfl rfl rfl ?_
  refine mj_b0 40 rfl ?_
  refine mj_brf (by show ¬ nI 400 ≤ nI n; exact nI_ge hn (by omega)) ?_
  refine mj_b1 40 rfl ⟨⟨hi, hi⟩, hi⟩ ?_
  refine mj_end rfl rfl trivial ⟨rfl, ?_⟩
  exact Eq.trans (b := fbH sc F S (upd ro (nI n).toNatClampNeg x, upd fp (nI n).toNatClampNeg y, upd op (nI n).toNatClampNeg z, rs, fo, at_, sd, rg, nI n + nI 1) Y M T C V A Z) rfl (by rw [e2, nI_add])
theorem c_list {ro fp op rs at_ f1 be bs : fA} {sd rg cl : Int32} {n : Nat} (hn : n < 2400) (x : Int32) : mj_C (d + 1) nX2_list [.ref 6, .int x] (fbH sc F S (ro, fp, op, rs, (f1, be, bs, nI n), at_, sd, rg, cl) Y M T C V A Z) none (fbH sc F S (ro, fp, op, rs, (f1, upd be n x, bs, nI (n + 1)), at_, sd, rg, cl) Y M T C V A Z) := by
  have e2 : (nI n).toNatClampNeg = n := nI_clamp (by omega)
  refine mj_C.of rfl rfl rfl ?_
  refine mj_b0 40 rfl ?_
  refine mj_brf (by show ¬ nI 2400 ≤ nI n; exact nI_ge hn (by omega)) ?_
  refine mj_b1 40 rfl (nI_ix hn (by omega)) ?_
  refine mj_end rfl rfl trivial ⟨rfl, ?_⟩
  exact Eq.trans (b := fbH sc F S (ro, fp, op, rs, (f1, upd be (nI n).toNatClampNeg x, bs, nI n + nI 1), at_, sd, rg, cl) Y M T C V A Z) rfl (by rw [e2, nI_add])
end GR2
