/-! the law -/
section LR
variable {L : Nat} {xs : Nat → Int32}
def QL : Option Value → mj_H → Prop := fun r h => r = some (.int 1) ∧ h.length ≤ 600000 ∧ mj_sz h ≤ 7302249
theorem lw_end {P : fP} {z : fZ} (hL : L ≤ 3072) (hp : P.1 = .inl (9, L, .inl xs)) : (fbP P (mdz z)).length ≤ 600000 ∧ mj_sz (fbP P (mdz z)) ≤ 7302249 := by
  obtain ⟨sc, F, S, G, Y, M, T, C, V, A⟩ := P
  have hsc : sc = .inl (9, L, .inl xs) := hp
  subst hsc
  refine ⟨by simp only [fbP, fbH, mdz, mdZ, List.length_cons, List.length_nil]; omega, ?_⟩
  simp only [fbP, fbH, mdz, mdZ, mj_sz, mj_sz1, List.length_cons, List.length_nil]
  omega
set_option maxRecDepth 20000 in
theorem lw_loop (hL : L ≤ 3072) (P : fP) (z : fZ) (hp : P.1 = .inl (9, L, .inl xs)) (hr : Rel P z) : mj_R (mj_C 40) 10 false (some .boolean) iL_law (18, [some (.ref 0), some (.ref 1), some (.ref 35), some (.int (nI 0))], [], fbP P (mdz z)) QL := by
  refine mj_itI (fun k (o : fP × fZ) => o.1.1 = .inl (9, L, .inl xs) ∧ Rel o.1 o.2) (fun k (o : fP × fZ) => (18, [some (.ref 0), some (.ref 1), some (.ref 35), some (.int (nI (6 * k)))], [], fbP o.1 (mdz o.2))) (L / 6) (fun k o hk hI ih => ?_) (fun o hI => ?_) (P, z) ⟨hp, hr⟩
  · have hk6 : 6 * k + 6 ≤ L := by omega
    have ih2 : ∀ (P : fP) (z : fZ), P.1 = .inl (9, L, .inl xs) → Rel P z → mj_R (mj_C 40) 10 false (some .boolean) iL_law (18, [some (.ref 0), some (.ref 1), some (.ref 35), some (.int (nI (6 * k) + nI 6))], [], fbP P (mdz z)) QL := by
      intro P z a1 a2
      have i2 := ih (P, z) ⟨a1, a2⟩
      rw [show 6 * (k + 1) = 6 * k + 6 by omega, ← nI_add (6 * k) 6] at i2
      exact i2
    obtain ⟨P, z⟩ := o
    obtain ⟨hp, hr⟩ := hI
    have e1 : (nI (6 * k)).toNatClampNeg = 6 * k := nI_clamp (by omega)
    obtain ⟨j, hj, ej⟩ := pk_andE (xs (6 * k)) (m := nI 63) 6 (by decide)
    have hj : j < 64 := hj
    have main : mj_R (mj_C 40) 10 false (some .boolean) iL_law (33, [some (.ref 0), some (.ref 1), some (.ref 35), some (.int (nI (6 * k)))], [.int (nI j)], fbP P (mdz z)) QL := by
      rcases Nat.lt_or_ge j 35 with h35 | h35
      · rcases (show j = 0 ∨ j = 1 ∨ j = 2 ∨ j = 3 ∨ j = 4 ∨ j = 5 ∨ j = 6 ∨ j = 7 ∨ j = 8 ∨ j = 9 ∨ j = 10 ∨ j = 11 ∨ j = 12 ∨ j = 13 ∨ j = 14 ∨ j = 15 ∨ j = 16 ∨ j = 17 ∨ j = 18 ∨ j = 19 ∨ j = 20 ∨ j = 21 ∨ j = 22 ∨ j = 23 ∨ j = 24 ∨ j = 25 ∨ j = 26 ∨ j = 27 ∨ j = 28 ∨ j = 29 ∨ j = 30 ∨ j = 31 ∨ j = 32 ∨ j = 33 ∨ j = 34 by omega) with rfl | rfl | rfl | rfl | rfl | rfl | rfl | rfl | rfl | rfl | rfl | rfl | rfl | rfl | rfl | rfl | rfl | rfl | rfl | rfl | rfl | rfl | rfl | rfl | rfl | rfl | rfl | rfl | rfl | rfl | rfl | rfl | rfl | rfl | rfl
        · exact mj_swt (t := 188) rfl (Or.inr ⟨by decide, by decide, 155, rfl, rfl⟩) (lw_0 hL hk6 P z hp hr ih2)
        · exact mj_swt (t := 231) rfl (Or.inr ⟨by decide, by decide, 198, rfl, rfl⟩) (lw_1 hL hk6 P z hp hr ih2)
        · exact mj_swt (t := 274) rfl (Or.inr ⟨by decide, by decide, 241, rfl, rfl⟩) (lw_2 hL hk6 P z hp hr ih2)
        · exact mj_swt (t := 337) rfl (Or.inr ⟨by decide, by decide, 304, rfl, rfl⟩) (lw_3 hL hk6 P z hp hr ih2)
        · exact mj_swt (t := 360) rfl (Or.inr ⟨by decide, by decide, 327, rfl, rfl⟩) (lw_4 hL hk6 P z hp hr ih2)
        · exact mj_swt (t := 393) rfl (Or.inr ⟨by decide, by decide, 360, rfl, rfl⟩) (lw_5 hL hk6 P z hp hr ih2)
        · exact mj_swt (t := 426) rfl (Or.inr ⟨by decide, by decide, 393, rfl, rfl⟩) (lw_6 hL hk6 P z hp hr ih2)
        · exact mj_swt (t := 459) rfl (Or.inr ⟨by decide, by decide, 426, rfl, rfl⟩) (lw_7 hL hk6 P z hp hr ih2)
        · exact mj_swt (t := 492) rfl (Or.inr ⟨by decide, by decide, 459, rfl, rfl⟩) (lw_8 hL hk6 P z hp hr ih2)
        · exact mj_swt (t := 535) rfl (Or.inr ⟨by decide, by decide, 502, rfl, rfl⟩) (lw_9 hL hk6 P z hp hr ih2)
        · exact mj_swt (t := 578) rfl (Or.inr ⟨by decide, by decide, 545, rfl, rfl⟩) (lw_10 hL hk6 P z hp hr ih2)
        · exact mj_swt (t := 621) rfl (Or.inr ⟨by decide, by decide, 588, rfl, rfl⟩) (lw_11 hL hk6 P z hp hr ih2)
        · exact mj_swt (t := 664) rfl (Or.inr ⟨by decide, by decide, 631, rfl, rfl⟩) (lw_12 hL hk6 P z hp hr ih2)
        · exact mj_swt (t := 697) rfl (Or.inr ⟨by decide, by decide, 664, rfl, rfl⟩) (lw_13 hL hk6 P z hp hr ih2)
        · exact mj_swt (t := 730) rfl (Or.inr ⟨by decide, by decide, 697, rfl, rfl⟩) (lw_14 hL hk6 P z hp hr ih2)
        · exact mj_swt (t := 753) rfl (Or.inr ⟨by decide, by decide, 720, rfl, rfl⟩) (lw_15 hL hk6 P z hp hr ih2)
        · exact mj_swt (t := 816) rfl (Or.inr ⟨by decide, by decide, 783, rfl, rfl⟩) (lw_16 hL hk6 P z hp hr ih2)
        · exact mj_swt (t := 829) rfl (Or.inr ⟨by decide, by decide, 796, rfl, rfl⟩) (lw_17 hL hk6 P z hp hr ih2)
        · exact mj_swt (t := 842) rfl (Or.inr ⟨by decide, by decide, 809, rfl, rfl⟩) (lw_18 hL hk6 P z hp hr ih2)
        · exact mj_swt (t := 875) rfl (Or.inr ⟨by decide, by decide, 842, rfl, rfl⟩) (lw_19 hL hk6 P z hp hr ih2)
        · exact mj_swt (t := 928) rfl (Or.inr ⟨by decide, by decide, 895, rfl, rfl⟩) (lw_20 hL hk6 P z hp hr ih2)
        · exact mj_swt (t := 941) rfl (Or.inr ⟨by decide, by decide, 908, rfl, rfl⟩) (lw_21 hL hk6 P z hp hr ih2)
        · exact mj_swt (t := 974) rfl (Or.inr ⟨by decide, by decide, 941, rfl, rfl⟩) (lw_22 hL hk6 P z hp hr ih2)
        · exact mj_swt (t := 1017) rfl (Or.inr ⟨by decide, by decide, 984, rfl, rfl⟩) (lw_23 hL hk6 P z hp hr ih2)
        · exact mj_swt (t := 1050) rfl (Or.inr ⟨by decide, by decide, 1017, rfl, rfl⟩) (lw_24 hL hk6 P z hp hr ih2)
        · exact mj_swt (t := 1093) rfl (Or.inr ⟨by decide, by decide, 1060, rfl, rfl⟩) (lw_25 hL hk6 P z hp hr ih2)
        · exact mj_swt (t := 1116) rfl (Or.inr ⟨by decide, by decide, 1083, rfl, rfl⟩) (lw_26 hL hk6 P z hp hr ih2)
        · exact mj_swt (t := 1149) rfl (Or.inr ⟨by decide, by decide, 1116, rfl, rfl⟩) (lw_27 hL hk6 P z hp hr ih2)
        · exact mj_swt (t := 1172) rfl (Or.inr ⟨by decide, by decide, 1139, rfl, rfl⟩) (lw_28 hL hk6 P z hp hr ih2)
        · exact mj_swt (t := 1195) rfl (Or.inr ⟨by decide, by decide, 1162, rfl, rfl⟩) (lw_29 hL hk6 P z hp hr ih2)
        · exact mj_swt (t := 1218) rfl (Or.inr ⟨by decide, by decide, 1185, rfl, rfl⟩) (lw_30 hL hk6 P z hp hr ih2)
        · exact mj_swt (t := 1251) rfl (Or.inr ⟨by decide, by decide, 1218, rfl, rfl⟩) (lw_31 hL hk6 P z hp hr ih2)
        · exact mj_swt (t := 1284) rfl (Or.inr ⟨by decide, by decide, 1251, rfl, rfl⟩) (lw_32 hL hk6 P z hp hr ih2)
        · exact mj_swt (t := 1307) rfl (Or.inr ⟨by decide, by decide, 1274, rfl, rfl⟩) (lw_33 hL hk6 P z hp hr ih2)
        · exact mj_swt (t := 1330) rfl (Or.inr ⟨by decide, by decide, 1297, rfl, rfl⟩) (lw_34 hL hk6 P z hp hr ih2)
      · refine mj_swt (t := 1343) rfl (Or.inl ⟨Or.inr (by rw [nI_toInt (by omega)]; omega), rfl⟩) ?_
        refine mj_b0 2 rfl ?_
        exact ih2 P z hp hr
    obtain ⟨sc, F, S, G, Y, M, T, C, V, A⟩ := P
    have hsc : sc = .inl (9, L, .inl xs) := hp
    subst hsc
    refine mj_b0 40 rfl ?_
    refine mj_brf (by
      show ¬ nI L - nI 6 < nI (6 * k)
      rw [Int32.lt_iff_toInt_lt, pk_sub_toInt (by omega) (by omega), nI_toInt (by omega)]
      omega) ?_
    refine mj_b1 40 rfl (nI_ix (show 6 * k < L by omega) (by omega)) ?_
    rw [e1]
    refine mj_sq (S' := (33, [some (.ref 0), some (.ref 1), some (.ref 35), some (.int (nI (6 * k)))], [.int (nI j)], fbP (.inl (9, L, .inl xs), F, S, G, Y, M, T, C, V, A) (mdz z))) (by rw [← ej] <;> rfl) ?_
    exact main
  · obtain ⟨P, z⟩ := o
    obtain ⟨hp, hr⟩ := hI
    have he := lw_end (z := z) hL hp
    obtain ⟨sc, F, S, G, Y, M, T, C, V, A⟩ := P
    have hsc : sc = .inl (9, L, .inl xs) := hp
    subst hsc
    refine mj_b0 40 rfl ?_
    refine mj_brt (by
      show nI L - nI 6 < nI (6 * (L / 6))
      rw [Int32.lt_iff_toInt_lt, pk_sub_toInt (by omega) (by omega), nI_toInt (by omega)]
      omega) ?_
    refine mj_b0 40 rfl ?_
    exact mj_end rfl rfl (Or.inr rfl) ⟨rfl, he.1, he.2⟩
theorem rel0 {G g : fG} {C1 c1 v1 : fA} {V : fV} {sc : mj_E} (h1 : Bd 8 G) (h2 : Bd 8 g) (hc : ∀ i, i < 400 → C1 i = nI 0) (hV : V.2.2 = (31, 32)) (hv : ∀ i, i < 400 → V.1 i = nI 0) (hm : ∀ i, i < 400 → c1 i = nI 0 ∧ v1 i = nI 0) : Rel (sc, (nI 0, nI 0), (z0, fl 8 (-(nI 1)) z0, z0), G, (z0, z0, z0, z0, z0, 18, 19), (nI 0, nI 0, nI 0, nI 0), (z0, z0, z0, z0, nI 0, nI 0), (C1, z0, z0), V, (z0, nI 0)) ((0, 0), (ln8, z0, z0), g, (z0, zL, z0, zL, zL), (nI 0, nI 0, nI 0, nI 0), ((z0, z0, z0, zL), (0, 0, 0, 0, 0, 0, 0)), (c1, z0, z0), (v1, z0), (z0, 0)) := by
  have t0 := tb0 (show 8 < 22 by omega)
  refine ⟨8, by omega, h1, h2, rfl, rfl, fun k hk => ?_, Or.inl rfl, ⟨rfl, 0, 0, by omega, by omega, rfl, rfl⟩, ⟨0, by omega, rfl, rfl, fun i hi => absurd hi (by omega)⟩, fun i hi => ?_, ⟨Or.inl hV, fun i hi => ?_⟩, 0, by omega, rfl, rfl, fun i hi => absurd hi (by omega)⟩
  · have e1 : fl 8 (-(nI 1)) z0 k = -(nI 1) := if_pos hk
    have e2 : ln8 k = -(nI 1) := by
      rcases (show k = 0 ∨ k = 1 ∨ k = 2 ∨ k = 3 ∨ k = 4 ∨ k = 5 ∨ k = 6 ∨ k = 7 by omega) with rfl | rfl | rfl | rfl | rfl | rfl | rfl | rfl <;> rfl
    exact ⟨e1.trans e2.symm, Or.inl e2, 0, by omega, rfl, rfl, fun q => absurd e2 q⟩
  · have e1 : C1 i = nI 0 := hc i (by omega)
    have e2 : c1 i = nI 0 := (hm i (by omega)).1
    exact ⟨e1.trans e2.symm, Or.inr ⟨0, by omega, e2⟩⟩
  · have e1 : lvs V i = nI 0 := by
      unfold lvs
      rw [hV, if_pos rfl]
      exact hv i (by omega)
    have e2 : v1 i = nI 0 := (hm i (by omega)).2
    exact ⟨e1.trans e2.symm, Or.inl e2⟩
set_option maxRecDepth 20000 in
theorem law_run (hL : L ≤ 3072) : mj_LawRun L xs := by
  obtain ⟨G, C1, V, g1, g2, g3, g4, g5⟩ := x_new (d := 33) (sc := .inl (9, L, .inl xs))
  obtain ⟨g, c1, v1, m1, m2, m3⟩ := x_mnew (d := 34) (P := (.inl (9, L, .inl xs), (nI 0, nI 0), (z0, fl 8 (-(nI 1)) z0, z0), G, (z0, z0, z0, z0, z0, 18, 19), (nI 0, nI 0, nI 0, nI 0), (z0, z0, z0, z0, nI 0, nI 0), (C1, z0, z0), V, (z0, nI 0)))
  have kk : mj_R (mj_C 40) 10 false (some .boolean) iL_law (0, [some (.ref 0), none, none, none], [], [.inl (9, L, .inl xs)]) QL := by
    refine mj_b0 40 rfl ?_
    refine mj_hq (h' := [.inl (9, L, .inl xs), .inr (8, [.null, .null, .null, .null, .null, .null, .null, .null, .int 0, .int 0])]) rfl ?_
    refine mj_cI rfl rfl (by decide) rfl rfl g5 ?_
    refine mj_b0 40 rfl ?_
    refine mj_hq (h' := fbP (.inl (9, L, .inl xs), (nI 0, nI 0), (z0, fl 8 (-(nI 1)) z0, z0), G, (z0, z0, z0, z0, z0, 18, 19), (nI 0, nI 0, nI 0, nI 0), (z0, z0, z0, z0, nI 0, nI 0), (C1, z0, z0), V, (z0, nI 0)) [.inr (9, [.int 0, .int 0, .null, .null, .null, .int 0, .int 0, .int 0, .null, .null, .null, .null, .null, .null, .null, .null, .null, .null, .int 0, .int 0, .int 0, .int 0, .null, .int 0, .int 0, .int 0, .int 0, .int 0, .int 0, .int 0, .null, .null, .null, .null, .null, .null, .null, .null, .null, .int 0])]) rfl ?_
    refine mj_cI rfl rfl (by decide) rfl rfl m3 ?_
    refine mj_b0 3 rfl ?_
    exact lw_loop hL _ ((0, 0), (ln8, z0, z0), g, (z0, zL, z0, zL, zL), (nI 0, nI 0, nI 0, nI 0), ((z0, z0, z0, zL), (0, 0, 0, 0, 0, 0, 0)), (c1, z0, z0), (v1, z0), (z0, 0)) rfl (rel0 g1 m1 g2 g3 g4 m2)
  obtain ⟨n, r, h', hn, rfl, h1, h2⟩ := kk
  exact ⟨40, n, h', by omega, hn, h1, h2⟩
end LR
