/-! THE BOARD, built: the model -/
section MX
variable {P : fP} {U : fU} {s : fA × fA × fA} {w : fW} {m : fM} {t : fR} {c : fA × fA × fA} {v : fA × fA} {a : fA × Int32} {d : Nat}
theorem tRo_pos {b x : Nat} (hb : b < 22) (hx : x < bn b) (h1 : 1 ≤ x) : tRo b x ≠ 0 := by
  intro z
  have hz := (tb1 hb hx).2.2.1
  have h5 : bRs b (0 + 1) = 1 := (tb5 hb).2.2.2.1
  rw [z, h5] at hz
  omega
/-- from where the PARENTS are laid -/
theorem lm_cell2 {b x : Nat} {Q : Option Value → mj_H → Prop} {o4 o5 o6 o7 : Option Value} (hb : b < 22) (hx : x < bn b) (h1 : 1 ≤ x) {g : fG} {W : Nat → Prop} (hP : Pw b x W g) (hW : ∀ i, i < tPar b x → W i) (kk : ∀ g' o4 o5 o6 o7, Pw b (x + 1) (fun _ => False) g' → mj_R (mj_C (d + 3)) 9 false none iX9_lay (255, [some (.ref 35), some (.int (nI x)), some (.int (nI (10 * x))), some (.int (nI (tPar b x))), o4, o5, o6, o7], [], fbP P (mdZ U s g' w m t c v a)) Q) : mj_R (mj_C (d + 3)) 9 false none iX9_lay (128, [some (.ref 35), some (.int (nI x)), some (.int (nI (10 * x))), some (.int (nI (tPar b x))), o4, o5, o6, o7], [], fbP P (mdZ U s g w m t c v a)) Q := by
  have t0 := tb0 hb
  have t1 := tb1 hb hx
  have t2 := tb2 hb hx h1
  have h300 := bn_300 hb
  have hp := tPar_12 hb hx h1
  have e0 : (nI x).toNatClampNeg = x := nI_clamp (by omega)
  have e1 : nI (10 * x) + nI (tPar b x) = nI (x * 10 + tPar b x) := by rw [nI_add, show 10 * x + tPar b x = x * 10 + tPar b x by omega]
  have e1c : (nI (x * 10 + tPar b x)).toNatClampNeg = x * 10 + tPar b x := nI_clamp (by omega)
  have e2c : (nI (x * 10 + (bp b - 1))).toNatClampNeg = x * 10 + (bp b - 1) := nI_clamp (by omega)
  have hbe : tBeh b x ≠ 1023 := by
    unfold tBeh
    have := tb_rs' hb (show tRo b x ≤ br b + 1 by omega)
    split <;> omega
  have hah : tAhe b x ≠ 1023 := by
    unfold tAhe
    have := tb_rs' hb (show tRo b x + 1 ≤ br b + 1 by omega)
    split <;> omega
  obtain ⟨ro, fp, op, rs, fo, at_, sd, rg, cl⟩ := g
  have hsd : sd = nI (bp b) := hP.1.1
  have e2 : nI (10 * x) + sd - mj_kc 1 = nI (x * 10 + (bp b - 1)) := by
    show nI (10 * x) + sd - nI 1 = _
    rw [hsd, nI_add, pk_sub (by omega), show 10 * x + bp b - 1 = x * 10 + (bp b - 1) by omega]
  refine mj_b0 40 rfl ?_
  refine mj_cV rfl rfl rfl rfl rfl rfl (xm_beh hb hx hP.1) ?_
  have hP1 := hP.put (show tPar b x < 10 by omega) (x := nI (tBeh b x)) (by rw [t2.2.2.1, nv_is hbe])
  refine mj_b1 1 rfl (by rw [e1]; exact nI_ix (show x * 10 + tPar b x < 4000 by omega) (by omega)) ?_
  refine mj_hq (h' := fbP P (mdZ U s (ro, fp, op, rs, fo, upd at_ (x * 10 + tPar b x) (nI (tBeh b x)), sd, rg, cl) w m t c v a)) (Eq.trans (b := fbP P (mdZ U s (ro, fp, op, rs, fo, upd at_ (nI (10 * x) + nI (tPar b x)).toNatClampNeg (nI (tBeh b x)), sd, rg, cl) w m t c v a)) rfl (by rw [e1, e1c])) ?_
  refine mj_b0 40 rfl ?_
  refine mj_cV rfl rfl rfl rfl rfl rfl (xm_ahe hb hx hP1.1) ?_
  have hP2 := hP1.put (show bp b - 1 < 10 by omega) (x := nI (tAhe b x)) (by rw [t2.2.2.2.1, nv_is hah])
  refine mj_b1 1 rfl (by rw [e2]; exact nI_ix (show x * 10 + (bp b - 1) < 4000 by omega) (by omega)) ?_
  refine mj_hq (h' := fbP P (mdZ U s (ro, fp, op, rs, fo, upd (upd at_ (x * 10 + tPar b x) (nI (tBeh b x))) (x * 10 + (bp b - 1)) (nI (tAhe b x)), sd, rg, cl) w m t c v a)) (Eq.trans (b := fbP P (mdZ U s (ro, fp, op, rs, fo, upd (upd at_ (x * 10 + tPar b x) (nI (tBeh b x))) (nI (10 * x) + sd - mj_kc 1).toNatClampNeg (nI (tAhe b x)), sd, rg, cl) w m t c v a)) rfl (by rw [e2, e2c])) ?_
  generalize hg : (ro, fp, op, rs, fo, upd (upd at_ (x * 10 + tPar b x) (nI (tBeh b x))) (x * 10 + (bp b - 1)) (nI (tAhe b x)), sd, rg, cl) = g2 at hP2 ⊢
  refine mj_b1 40 rfl (nI_ix (show x < 400 by omega) (by omega)) ?_
  rw [e0]
  by_cases hr : tRo b x < br b
  · refine mj_brf (by show ¬ grg g2 ≤ gro g2 x; rw [hP2.1.2.1, (hP2.1.2.2.2.1 x hx).1]; exact nI_ge hr (by omega)) ?_
    have hk0 : 0 < bp b - 2 - tPar b x := by omega
    have t8 := tb8 hb hx h1 hk0
    refine mj_b0 40 rfl ?_
    refine mj_cV rfl rfl rfl rfl rfl rfl (m_last hb hx (tRo_pos hb hx h1) hr hP2.1) ?_
    refine mj_b0 40 rfl ?_
    refine mj_cV rfl rfl rfl rfl rfl rfl (xm_ahe hb hx hP2.1) ?_
    refine mj_cV rfl rfl rfl rfl rfl rfl (m_last hb t8.2.2 (by rw [t8.2.1]; exact tRo_pos hb hx h1) (by rw [t8.2.1]; exact hr) hP2.1) ?_
    refine mj_b0 40 rfl ?_
    refine mj_cV rfl rfl rfl rfl rfl rfl (xm_par hb hP2.1 hx hx h1) ?_
    have e3 : gsd g2 - mj_kc 2 - nI (tPar b x) = nI (bp b - 2 - tPar b x) := by
      show gsd g2 - nI 2 - nI (tPar b x) = _
      rw [hP2.1.1, pk_sub (by omega), pk_sub (by omega)]
    refine mj_b0 4 rfl ?_
    rw [e3]
    refine lm_child hb hx h1 hr (bp b - 2 - tPar b x) 0 g2 _ (by omega) hP2 (fun g' y W' b1 b2 b3 => ?_)
    refine kk g' _ _ _ _ (b1.done hb (fun i hi => Or.inl ?_) hx)
    by_cases q1 : i < tPar b x
    · exact b2 i (Or.inr (Or.inr (hW i q1)))
    · by_cases q2 : i = tPar b x
      · exact b2 i (Or.inr (Or.inl q2))
      · by_cases q3 : i = bp b - 1
        · exact b2 i (Or.inl q3)
        · have := b3 (i - (tPar b x + 1)) (Nat.zero_le _) (by omega)
          rwa [show tPar b x + 1 + (i - (tPar b x + 1)) = i by omega] at this
  · refine mj_brt (by show grg g2 ≤ gro g2 x; rw [hP2.1.2.1, (hP2.1.2.2.2.1 x hx).1]; exact nI_le (by omega) (by omega)) ?_
    refine kk g2 _ _ _ _ (hP2.done hb (fun i hi => ?_) hx)
    by_cases q1 : i < tPar b x
    · exact Or.inl (Or.inr (Or.inr (hW i q1)))
    · by_cases q2 : i = tPar b x
      · exact Or.inl (Or.inr (Or.inl q2))
      · by_cases q3 : i = bp b - 1
        · exact Or.inl (Or.inl q3)
        · have t8 := (tb8 hb hx h1 (show i - (tPar b x + 1) < bp b - 2 - tPar b x by omega)).1
          rw [if_neg hr, show tPar b x + 1 + (i - (tPar b x + 1)) = i by omega] at t8
          exact Or.inr t8
theorem lm_cells {b : Nat} (hb : b < 22) : ∀ (j x : Nat) (g : fG) (o2 o3 o4 o5 o6 o7 : Option Value), j + x = bn b → 1 ≤ x → Pw b x (fun _ => False) g → mj_R (mj_C (d + 3)) 9 false none iX9_lay (70, [some (.ref 35), some (.int (nI x)), o2, o3, o4, o5, o6, o7], [], fbP P (mdZ U s g w m t c v a)) (fun r h => r = none ∧ ∃ g', Bd b g' ∧ h = fbP P (mdZ U s g' w m t c v a))
  | 0, x, g, o2, o3, o4, o5, o6, o7, hj, h1, hP => by
    have t0 := tb0 hb
    rw [Nat.zero_add] at hj
    subst hj
    refine mj_b0 40 rfl ?_
    refine mj_brt (by show gcl g ≤ _; rw [hP.1.2.2.1]; exact nI_le (Nat.le_refl _) (by omega)) ?_
    exact mj_end rfl rfl trivial ⟨rfl, (gro g, gfp g, gop g, grs g, (gfo g, gBe b (bn b), fun c => nI (tSt b c), 0), gat g, gsd g, grg g, gcl g), ⟨hP.1.1, hP.1.2.1, hP.1.2.2.1, hP.1.2.2.2.1, hP.1.2.2.2.2.1, hP.2.1, fun c _ => rfl, fun c hc i hi => gBe_ok hc hi⟩, rfl⟩
  | j + 1, x, g, o2, o3, o4, o5, o6, o7, hj, h1, hP => by
    have t0 := tb0 hb
    have hx : x < bn b := by omega
    have t2 := tb2 hb hx h1
    have h300 := bn_300 hb
    have hp := tPar_12 hb hx h1
    have e0 : (nI x).toNatClampNeg = x := nI_clamp (by omega)
    have e1 : mj_kc 10 * nI x = nI (10 * x) := pk_mul 10 x
    have e1c : (nI (10 * x)).toNatClampNeg = x * 10 + 0 := by rw [nI_clamp (by omega)]; omega
    have next : ∀ g' o4 o5 o6 o7, Pw b (x + 1) (fun _ => False) g' → mj_R (mj_C (d + 3)) 9 false none iX9_lay (255, [some (.ref 35), some (.int (nI x)), some (.int (nI (10 * x))), some (.int (nI (tPar b x))), o4, o5, o6, o7], [], fbP P (mdZ U s g' w m t c v a)) (fun r h => r = none ∧ ∃ g', Bd b g' ∧ h = fbP P (mdZ U s g' w m t c v a)) := by
      intro g' o4 o5 o6 o7 hP'
      refine mj_b0 2 rfl ?_
      have ih := lm_cells hb j (x + 1) g' (some (.int (nI (10 * x)))) (some (.int (nI (tPar b x)))) o4 o5 o6 o7 (by omega) (by omega) hP'
      rw [← nI_add x 1] at ih
      exact ih
    obtain ⟨ro, fp, op, rs, fo, at_, sd, rg, cl⟩ := g
    obtain ⟨-, hfp, hop⟩ := hP.1.2.2.2.1 x hx
    refine mj_b0 40 rfl ?_
    refine mj_brf (by show ¬ cl ≤ nI x; rw [show cl = nI (bn b) from hP.1.2.2.1]; exact nI_ge hx (by omega)) ?_
    refine mj_b0 6 rfl ?_
    rw [e1]
    have hfp' : fp x = nv (tFp b x) := hfp
    have hop' : op x = nv (tOp b x) := hop
    refine mj_b1 8 rfl ⟨nI_ix (show x < 400 by omega) (by omega), nI_ix (show 10 * x < 4000 by omega) (by omega)⟩ ?_
    have hP1 := hP.put (s := 0) (by omega) (x := fp x) (by rw [hfp', t2.1])
    refine mj_hq (h' := fbP P (mdZ U s (ro, fp, op, rs, fo, upd at_ (x * 10 + 0) (fp x), sd, rg, cl) w m t c v a)) (Eq.trans (b := fbP P (mdZ U s (ro, fp, op, rs, fo, upd at_ (nI (10 * x)).toNatClampNeg (fp (nI x).toNatClampNeg), sd, rg, cl) w m t c v a)) rfl (by rw [e1c, e0])) ?_
    refine mj_b1 40 rfl (nI_ix (show x < 400 by omega) (by omega)) ?_
    rw [e0]
    by_cases q : tOp b x = 1023
    · have hpar : tPar b x = 1 := by unfold tPar; rw [if_pos q, if_neg (tb6 hb hx h1)]
      refine mj_brt (by show op x = NO; rw [hop', q]; rfl) ?_
      rw [hpar] at next
      have z := lm_cell2 (d := d) (o4 := o4) (o5 := o5) (o6 := o6) (o7 := o7) hb hx h1 hP1 (fun i hi => Or.inl (by omega)) (by rw [hpar]; exact next)
      rw [hpar] at z
      exact z
    · have hpar : tPar b x = 2 := by unfold tPar; rw [if_neg q]
      refine mj_brf (by show ¬ op x = NO; rw [hop']; exact fun z => q ((nv_NO (tOp_lt b x)).mp z)) ?_
      have e4 : nI (10 * x) + (mj_kc 0 + mj_kc 1) = nI (x * 10 + 1) := by
        show nI (10 * x) + (nI 0 + nI 1) = _
        rw [nI_add, nI_add, show 10 * x + (0 + 1) = x * 10 + 1 by omega]
      have e4c : (nI (x * 10 + 1)).toNatClampNeg = x * 10 + 1 := nI_clamp (by omega)
      have hP2 := hP1.put (s := 1) (by omega) (x := op x) (by rw [hop', t2.2.1 hpar])
      refine mj_b1 10 rfl ⟨nI_ix (show x < 400 by omega) (by omega), by rw [e4]; exact nI_ix (show x * 10 + 1 < 4000 by omega) (by omega)⟩ ?_
      refine mj_hq (h' := fbP P (mdZ U s (ro, fp, op, rs, fo, upd (upd at_ (x * 10 + 0) (fp x)) (x * 10 + 1) (op x), sd, rg, cl) w m t c v a)) (Eq.trans (b := fbP P (mdZ U s (ro, fp, op, rs, fo, upd (upd at_ (x * 10 + 0) (fp x)) (nI (10 * x) + (mj_kc 0 + mj_kc 1)).toNatClampNeg (op (nI x).toNatClampNeg), sd, rg, cl) w m t c v a)) rfl (by rw [e4, e4c, e0])) ?_
      refine mj_b0 1 rfl ?_
      rw [hpar] at next
      have z := lm_cell2 (d := d) (o4 := o4) (o5 := o5) (o6 := o6) (o7 := o7) hb hx h1 hP2 (fun i hi => by
        by_cases e : i = 0
        · exact Or.inr (Or.inl e)
        · exact Or.inl (by omega)) (by rw [hpar]; exact next)
      rw [hpar] at z
      exact z
end MX
