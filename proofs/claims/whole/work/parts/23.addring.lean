/-! a further ring; all rings -/
section GB3
variable {sc : mj_E} {F : Int32 × Int32} {S : fA × fA × fA} {Y : fY} {M : fM} {T : fT} {C : fC} {V : fV} {A : fA × Int32} {Z : mj_H} {d : Nat}
def tNx (b k c : Nat) : Nat := if c < bRs b (k + 1) then tFo b c else bRs b (k + 2)
theorem Pb.own {b n k m : Nat} {ro fp op rs at_ : fA} {fo : fO} {sd rg cl : Int32} (h : Pb b n k m (ro, fp, op, rs, fo, at_, sd, rg, cl)) (x : Int32) (hx : x = nI (tFo b m)) : Pb b n k (m + 1) (ro, fp, op, rs, (upd fo.1 m x, fo.2), at_, sd, rg, cl) := by
  obtain ⟨h1, h2, h3, h4, h5, h6⟩ := h
  refine ⟨h1, h2, h3, h4, h5, fun c a1 a2 => ?_⟩
  show upd fo.1 m x c = _
  by_cases e : c = m
  · subst e
    rw [pk_us, hx]
  · rw [pk_un e]
    exact h6 c a1 (by omega)
theorem l_ring {b k : Nat} (hb : b < 22) (hk0 : k ≠ 0) (hk : k < br b) : ∀ (j c : Nat) (G : fG) (o3 o4 : Option Value), j + c = bRs b (k + 1) → bRs b k ≤ c → Pb b (tNx b k c) (k + 1) c G → mj_R (mj_C (d + 2)) 2 false none iX2_addRing (9, [some (.ref 6), some (.int (nI (k + 1))), some (.int (nI c)), o3, o4], [], fbH sc F S G Y M T C V A Z) (fun r h => r = none ∧ ∃ G', Pb b (bRs b (k + 2)) (k + 1) (bRs b (k + 1)) G' ∧ h = fbH sc F S G' Y M T C V A Z)
  | 0, c, G, o3, o4, hj, hc, hP => by
    have t0 := tb0 hb
    have t2 := tb_rs' hb (show k + 1 ≤ br b + 1 by omega)
    have e1 : (nI (k + 1)).toNatClampNeg = k + 1 := nI_clamp (by omega)
    rw [Nat.zero_add] at hj
    refine mj_b1 40 rfl (nI_ix (by omega) (by omega)) ?_
    rw [e1]
    refine mj_brt (by show grs G (k + 1) ≤ nI c; rw [hP.2.2.2.2.1 _ (Nat.le_refl _), hj]; exact nI_le (Nat.le_refl _) (by omega)) ?_
    have e2 : tNx b k c = bRs b (k + 2) := if_neg (by omega)
    rw [e2, hj] at hP
    exact mj_end rfl rfl trivial ⟨rfl, G, hP, rfl⟩
  | j + 1, c, G, o3, o4, hj, hc, hP => by
    have t0 := tb0 hb
    have t2 := tb_rs' hb (show k + 1 ≤ br b + 1 by omega)
    have e1 : (nI (k + 1)).toNatClampNeg = k + 1 := nI_clamp (by omega)
    have hcb : c < bn b := by omega
    have e3 : (nI c).toNatClampNeg = c := nI_clamp (by omega)
    obtain ⟨k', rfl⟩ : ∃ k', k = k' + 1 := ⟨k - 1, by omega⟩
    have hro : tRo b c = k' + 1 := ((tb5 hb).2.2.2.2.2 k' (by omega)).2 c hcb hc (show c < bRs b (k' + 1 + 1) by omega)
    have t4 := tb4 hb hcb (by omega) (by omega)
    rw [hro] at t4
    have e4 : tNx b (k' + 1) c = tFo b c := if_pos (by omega)
    rw [e4] at hP
    have hfo : c < tFo b c := by
      have t1 := tb1 hb t4.2.2.2.2.2.1
      rw [t4.2.2.2.1] at t1
      have t1' := tb1 hb hcb
      have := (tb5 hb).2.2.2.2.2
      rcases Nat.lt_or_ge c (tFo b c) with q | q
      · exact q
      · exfalso
        have hf := tb1 hb (show tFo b c < bn b by omega)
        rcases Nat.eq_zero_or_pos (bp b - 4 - tPar b c) with z | z
        · have a := t4.2.2.1
          rw [z, Nat.add_zero] at a
          have a2 := hf.2.1
          rw [a] at a2
          omega
        · have a := (t4.2.1 0 z).1
          rw [Nat.add_zero] at a
          have a2 := hf.2.1
          rw [a] at a2
          omega
    obtain ⟨ro, fp, op, rs, fo, at_, sd, rg, cl⟩ := G
    have hcl : cl = nI (tFo b c) := hP.2.2.1
    subst hcl
    refine mj_b1 40 rfl (nI_ix (by omega) (by omega)) ?_
    rw [e1]
    refine mj_brf (by show ¬ rs (k' + 1 + 1) ≤ nI c; rw [show rs (k' + 1 + 1) = nI (bRs b (k' + 1 + 1)) from hP.2.2.2.2.1 _ (Nat.le_refl _)]; exact nI_ge (by omega) (by omega)) ?_
    refine mj_b1 40 rfl (nI_ix (show c < 400 by omega) (by omega)) ?_
    refine mj_hq (h' := fbH sc F S (ro, fp, op, rs, (upd fo.1 c (nI (tFo b c)), fo.2), at_, sd, rg, nI (tFo b c)) Y M T C V A Z) (Eq.trans (b := fbH sc F S (ro, fp, op, rs, (upd fo.1 (nI c).toNatClampNeg (nI (tFo b c)), fo.2), at_, sd, rg, nI (tFo b c)) Y M T C V A Z) rfl (by rw [e3])) ?_
    have hP2 := hP.own (nI (tFo b c)) rfl
    refine mj_cV rfl rfl rfl rfl rfl rfl (x_own hb hP2 hfo (by omega) t4.1) ?_
    refine mj_b0 3 rfl ?_
    refine l_own (k := k' + 1) hb hcb hro (by omega) hk (bp b - 4 - tPar b c) 0 _ (by omega) hP2 (fun G' hP' => ?_)
    refine mj_b0 40 rfl ?_
    refine mj_cV rfl rfl rfl rfl rfl rfl (x_behind hb hP' (by omega) hcb (by omega)) ?_
    obtain ⟨G2, hP3, hcl⟩ := x_add (sc := sc) (F := F) (S := S) (Y := Y) (M := M) (T := T) (C := C) (V := V) (A := A) (Z := Z) (d := d + 1) hP' (by omega)
    have hbe : tBeh b c ≠ 1023 := by
      unfold tBeh
      have := tb_rs' hb (show tRo b c ≤ br b + 1 by omega)
      split <;> omega
    rw [t4.2.2.1, t4.2.2.2.1, t4.2.2.2.2.1, nv_is (show c ≠ 1023 by omega), nv_is hbe] at hcl
    refine mj_cV rfl rfl rfl rfl rfl rfl hcl ?_
    refine mj_b0 2 rfl ?_
    have ih := l_ring hb hk0 hk j (c + 1) G2 (some (.int (nI (bp b - 4 - tPar b c)))) (some (.int (nI (bp b - 4 - tPar b c)))) (by omega) (by omega) (by
      have e5 : tNx b (k' + 1) (c + 1) = tFo b c + (bp b - 4 - tPar b c) + 1 := t4.2.2.2.2.2.2
      rw [e5]
      exact hP3)
    rw [← nI_add c 1] at ih
    exact ih
theorem x_ring {b k : Nat} (hb : b < 22) (hk0 : k ≠ 0) (hk : k < br b) {G : fG} (hP : Pb b (bRs b (k + 1)) (k + 1) (bRs b k) G) : ∃ G', Pb b (bRs b (k + 2)) (k + 1) (bRs b (k + 1)) G' ∧ mj_C (d + 3) nX2_addRing [.ref 6, .int (nI (k + 1))] (fbH sc F S G Y M T C V A Z) none (fbH sc F S G' Y M T C V A Z) := by
  have t0 := tb0 hb
  obtain ⟨k', rfl⟩ : ∃ k', k = k' + 1 := ⟨k - 1, by omega⟩
  have e1 : nI (k' + 1 + 1) - nI 1 = nI (k' + 1) := by rw [pk_sub (by omega)]; rfl
  have e2 : (nI (k' + 1)).toNatClampNeg = k' + 1 := nI_clamp (by omega)
  have hs := hP.2.2.2.2.1 (k' + 1) (by omega)
  have t5 := ((tb5 hb).2.2.2.2.2 k' (by omega)).1
  have hlt := t0.2.2.2.2.2.2.2 (k' + 1) (by omega)
  obtain ⟨r, h', hc, rfl, G', hG, rfl⟩ := mj_C.ex (y := nX2_addRing) (av := [.ref 6, .int (nI (k' + 1 + 1))]) (h := fbH sc F S G Y M T C V A Z) (d := d + 2) (Q := fun r h => r = none ∧ ∃ G', Pb b (bRs b (k' + 1 + 2)) (k' + 1 + 1) (bRs b (k' + 1 + 1)) G' ∧ h = fbH sc F S G' Y M T C V A Z) rfl rfl rfl (by
    refine mj_b1 7 rfl (by show vp_in (nI (k' + 1 + 1) - nI 1) 7; rw [e1]; exact nI_ix (by omega) (by omega)) ?_
    show mj_R _ _ _ _ _ (_, [some (Value.ref 6), some (Value.int (nI (k' + 1 + 1))), some (Value.int (grs G (nI (k' + 1 + 1) - nI 1).toNatClampNeg)), none, none], _, _) _
    rw [e1, e2, hs]
    refine l_ring hb hk0 hk (bRs b (k' + 1 + 1) - bRs b (k' + 1)) (bRs b (k' + 1)) G none none (by omega) (Nat.le_refl _) ?_
    have e5 : tNx b (k' + 1) (bRs b (k' + 1)) = bRs b (k' + 1 + 1) := by
      unfold tNx
      rw [if_pos hlt, t5]
    rw [e5]
    exact hP)
  exact ⟨G', hG, hc⟩
end GB3
