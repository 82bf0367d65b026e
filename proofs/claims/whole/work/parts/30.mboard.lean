/-! the model's lay and build -/
section MY
variable {P : fP} {U : fU} {s : fA × fA × fA} {w : fW} {m : fM} {t : fR} {c : fA × fA × fA} {v : fA × fA} {a : fA × Int32} {d : Nat}
theorem lm_fill {b : Nat} {Q : Option Value → mj_H → Prop} : ∀ (j k : Nat) (g : fG), j + k = 4000 → Pb b (bn b) (br b + 1) 1 g → (∀ i, i < k → gat g i = NO) → (∀ g', Pb b (bn b) (br b + 1) 1 g' → (∀ i, i < 4000 → gat g' i = NO) → mj_R (mj_C (d + 3)) 9 false none iX9_lay (23, [some (.ref 35), some (.int (nI 4000)), none, none, none, none, none, none], [], fbP P (mdZ U s g' w m t c v a)) Q) → mj_R (mj_C (d + 3)) 9 false none iX9_lay (2, [some (.ref 35), some (.int (nI k)), none, none, none, none, none, none], [], fbP P (mdZ U s g w m t c v a)) Q
  | 0, k, g, hj, hP, hf, kk => by
    rw [Nat.zero_add] at hj
    subst hj
    refine mj_b0 40 rfl ?_
    refine mj_brt (show nI 4000 ≤ nI 4000 from nI_le (Nat.le_refl _) (by omega)) ?_
    exact kk g hP hf
  | j + 1, k, g, hj, hP, hf, kk => by
    have e1 : (nI k).toNatClampNeg = k := nI_clamp (by omega)
    obtain ⟨ro, fp, op, rs, fo, at_, sd, rg, cl⟩ := g
    refine mj_b0 40 rfl ?_
    refine mj_brf (show ¬ nI 4000 ≤ nI k from nI_ge (by omega) (by omega)) ?_
    refine mj_b1 5 rfl (nI_ix (show k < 4000 by omega) (by omega)) ?_
    refine mj_hq (h' := fbP P (mdZ U s (ro, fp, op, rs, fo, upd at_ k NO, sd, rg, cl) w m t c v a)) (Eq.trans (b := fbP P (mdZ U s (ro, fp, op, rs, fo, upd at_ (nI k).toNatClampNeg NO, sd, rg, cl) w m t c v a)) rfl (by rw [e1])) ?_
    refine mj_b0 2 rfl ?_
    have ih := lm_fill (Q := Q) j (k + 1) (ro, fp, op, rs, fo, upd at_ k NO, sd, rg, cl) (by omega) hP (fun i hi => by
      show upd at_ k NO i = _
      by_cases e : i = k
      · subst e; exact pk_us
      · rw [pk_un e]; exact hf i (by omega)) kk
    rw [← nI_add k 1] at ih
    exact ih
theorem lm_row0 {b : Nat} (hb : b < 22) : ∀ (j k : Nat) (g : fG), j + k = bp b → Pw b 0 (fun i => i < k) g → mj_R (mj_C (d + 3)) 9 false none iX9_lay (25, [some (.ref 35), some (.int (nI k)), none, none, none, none, none, none], [], fbP P (mdZ U s g w m t c v a)) (fun r h => r = none ∧ ∃ g', Bd b g' ∧ h = fbP P (mdZ U s g' w m t c v a))
  | 0, k, g, hj, hP => by
    have t0 := tb0 hb
    rw [Nat.zero_add] at hj
    subst hj
    refine mj_b0 40 rfl ?_
    refine mj_brt (by show gsd g ≤ _; rw [hP.1.1]; exact nI_le (Nat.le_refl _) (by omega)) ?_
    refine mj_b0 2 rfl ?_
    exact lm_cells hb (bn b - 1) 1 g none none none none none none (by omega) (Nat.le_refl 1) (hP.done hb (fun i hi => Or.inl hi) (by omega))
  | j + 1, k, g, hj, hP => by
    have t0 := tb0 hb
    have t5 := (tb5 hb).2.2.2.2.1
    have e1 : (nI k).toNatClampNeg = 0 * 10 + k := by rw [nI_clamp (by omega)]; omega
    refine mj_b0 40 rfl ?_
    refine mj_brf (by show ¬ gsd g ≤ nI k; rw [hP.1.1]; exact nI_ge (by omega) (by omega)) ?_
    refine mj_b0 40 rfl ?_
    by_cases hr : br b = 0
    · refine mj_brt (by show grg g ≤ 0; rw [hP.1.2.1, hr]; decide) ?_
      refine mj_b0 2 rfl ?_
      exact lm_cells hb (bn b - 1) 1 g none none none none none none (by omega) (Nat.le_refl 1) (hP.done hb (fun i hi => Or.inr (by rw [t5 i hi, if_pos hr])) (by omega))
    · refine mj_brf (by show ¬ grg g ≤ 0; rw [hP.1.2.1]; exact nI_nle (by omega) (by omega)) ?_
      have tk := t5 k (by omega)
      rw [if_neg hr] at tk
      have fin : ∀ z : Int32, z = nv (tAt b 0 k) → mj_R (mj_C (d + 3)) 9 false none iX9_lay (61, [some (.ref 35), some (.int (nI k)), none, none, none, none, none, none], [.int z, .int (nI k), .ref 43], fbP P (mdZ U s g w m t c v a)) (fun r h => r = none ∧ ∃ g', Bd b g' ∧ h = fbP P (mdZ U s g' w m t c v a)) := by
        intro z hz
        obtain ⟨ro, fp, op, rs, fo, at_, sd, rg, cl⟩ := g
        have hP2 := hP.put (show k < 10 by omega) hz
        refine mj_b1 1 rfl (nI_ix (show k < 4000 by omega) (by omega)) ?_
        refine mj_hq (h' := fbP P (mdZ U s (ro, fp, op, rs, fo, upd at_ (0 * 10 + k) z, sd, rg, cl) w m t c v a)) (Eq.trans (b := fbP P (mdZ U s (ro, fp, op, rs, fo, upd at_ (nI k).toNatClampNeg z, sd, rg, cl) w m t c v a)) rfl (by rw [e1])) ?_
        refine mj_b0 2 rfl ?_
        have ih := lm_row0 hb j (k + 1) (ro, fp, op, rs, fo, upd at_ (0 * 10 + k) z, sd, rg, cl) (by omega) ⟨hP2.1, hP2.2.1, fun i a1 a2 => hP2.2.2.1 i a1 (by
          by_cases e : i = k
          · exact Or.inl e
          · exact Or.inr (show i < k by omega)), fun i a1 a2 => hP2.2.2.2.1 i a1 (fun q => a2 (by
          rcases q with q | q
          · omega
          · have : i < k := q
            omega)), hP2.2.2.2.2⟩
        rw [← nI_add k 1] at ih
        exact ih
      refine mj_b0 40 rfl ?_
      by_cases hk : k = 0
      · subst hk
        refine mj_brf (show ¬ ¬ nI 0 = 0 from fun q => q rfl) ?_
        refine mj_b0 2 rfl ?_
        exact fin _ (by rw [tk, if_pos rfl]; rfl)
      · refine mj_brt (nI_ne0 (by omega) (by omega)) ?_
        refine mj_b0 6 rfl ?_
        refine fin _ ?_
        show gsd g + nI 1 - nI k = _
        rw [hP.1.1, nI_add, pk_sub (by omega), tk, if_neg hk, nv_is (by omega)]
theorem x_mlay {b : Nat} (hb : b < 22) {g : fG} (hP : Pb b (bn b) (br b + 1) 1 g) : ∃ g', Bd b g' ∧ mj_C (d + 4) nX9_lay [.ref 35] (fbP P (mdZ U s g w m t c v a)) none (fbP P (mdZ U s g' w m t c v a)) := by
  have t0 := tb0 hb
  obtain ⟨r, h', hc, rfl, g', hG, rfl⟩ := mj_C.ex (y := nX9_lay) (av := [.ref 35]) (h := fbP P (mdZ U s g w m t c v a)) (d := d + 3) (Q := fun r h => r = none ∧ ∃ g', Bd b g' ∧ h = fbP P (mdZ U s g' w m t c v a)) rfl rfl rfl (by
    refine mj_b0 2 rfl ?_
    refine lm_fill (b := b) 4000 0 g (by omega) hP (fun i hi => absurd hi (Nat.not_lt_zero i)) (fun g1 hP1 hf => ?_)
    refine mj_b0 2 rfl ?_
    exact lm_row0 hb (bp b) 0 g1 (by omega) ⟨hP1, fun c' h => absurd h (Nat.not_lt_zero c'), fun i _ h => absurd h (Nat.not_lt_zero i), fun i hi _ => hf _ (by omega), fun i _ hi => hf i hi⟩)
  exact ⟨g', hG, hc⟩
theorem lm_rings {b : Nat} {Q : Option Value → mj_H → Prop} (hb : b < 22) (kk : ∀ g' x o4 o5 o6 o7 o8, Pb b (bn b) (br b + 1) 1 g' → mj_R (mj_C (d + 2)) 9 false none iX9_build (215, [some (.ref 35), some (.int (nI (bp b))), some (.int (nI (br b))), some (.int x), o4, o5, o6, o7, o8], [], fbP P (mdZ U s g' w m t c v a)) Q) : ∀ (j q : Nat) (g : fG) (o4 o5 o6 o7 o8 : Option Value), j + q = br b + 1 → 1 ≤ q → Pb b (bRs b q) q 1 g → mj_R (mj_C (d + 2)) 9 false none iX9_build (54, [some (.ref 35), some (.int (nI (bp b))), some (.int (nI (br b))), some (.int (nI q)), o4, o5, o6, o7, o8], [], fbP P (mdZ U s g w m t c v a)) Q
  | 0, q, g, o4, o5, o6, o7, o8, hj, h1, hP => by
    have t0 := tb0 hb
    rw [Nat.zero_add] at hj
    subst hj
    refine mj_b0 40 rfl ?_
    refine mj_brt (nI_lt (by omega) (by omega)) ?_
    rw [t0.2.2.2.2.2.2.1] at hP
    exact kk g _ _ _ _ _ _ hP
  | j + 1, q, g, o4, o5, o6, o7, o8, hj, h1, hP => by
    have t0 := tb0 hb
    have e0 : (nI q).toNatClampNeg = q := nI_clamp (by omega)
    have e1 : (nI (q + 1)).toNatClampNeg = q + 1 := nI_clamp (by omega)
    have e2 : nI q + mj_kc 1 = nI (q + 1) := nI_add q 1
    have fin : ∀ g1 o4 o5 o6 o7 o8, Pb b (bRs b (q + 1)) q 1 g1 → mj_R (mj_C (d + 2)) 9 false none iX9_build (197, [some (.ref 35), some (.int (nI (bp b))), some (.int (nI (br b))), some (.int (nI q)), o4, o5, o6, o7, o8], [], fbP P (mdZ U s g1 w m t c v a)) Q := by
      intro g1 o4 o5 o6 o7 o8 hP1
      obtain ⟨ro, fp, op, rs, fo, at_, sd, rg, cl⟩ := g1
      have hcl : cl = nI (bRs b (q + 1)) := hP1.2.2.1
      subst hcl
      refine mj_b1 8 rfl (by show vp_in (nI q + mj_kc 1) 7; rw [e2]; exact nI_ix (by omega) (by omega)) ?_
      refine mj_hq (h' := fbP P (mdZ U s (ro, fp, op, upd rs (q + 1) (nI (bRs b (q + 1))), fo, at_, sd, rg, nI (bRs b (q + 1))) w m t c v a)) (Eq.trans (b := fbP P (mdZ U s (ro, fp, op, upd rs (nI q + mj_kc 1).toNatClampNeg (nI (bRs b (q + 1))), fo, at_, sd, rg, nI (bRs b (q + 1))) w m t c v a)) rfl (by rw [e2, e1])) ?_
      refine mj_b0 2 rfl ?_
      rw [e2]
      exact lm_rings hb kk j (q + 1) _ _ _ _ _ _ (by omega) (by omega) (hP1.rs _ rfl)
    refine mj_b0 40 rfl ?_
    refine mj_brf (nI_nlt (by omega) (by omega)) ?_
    obtain ⟨ro, fp, op, rs, fo, at_, sd, rg, cl⟩ := g
    have hcl : cl = nI (bRs b q) := hP.2.2.1
    subst hcl
    refine mj_b1 6 rfl (nI_ix (show q < 7 by omega) (by omega)) ?_
    have hP2 := hP.rs0 (j0 := q) (nI (bRs b q)) rfl
    refine mj_hq (h' := fbP P (mdZ U s (ro, fp, op, upd rs q (nI (bRs b q)), fo, at_, sd, rg, nI (bRs b q)) w m t c v a)) (Eq.trans (b := fbP P (mdZ U s (ro, fp, op, upd rs (nI q).toNatClampNeg (nI (bRs b q)), fo, at_, sd, rg, nI (bRs b q)) w m t c v a)) rfl (by rw [e0])) ?_
    generalize (ro, fp, op, upd rs q (nI (bRs b q)), fo, at_, sd, rg, nI (bRs b q)) = g2 at hP2 ⊢
    refine mj_b0 40 rfl ?_
    by_cases hq : q = 1
    · subst hq
      refine mj_brf (show ¬ ¬ nI 1 = nI 1 from fun z => z rfl) ?_
      refine mj_b0 2 rfl ?_
      rw [(tb5 hb).2.2.2.1] at hP2
      refine lm_first hb (by omega) (bp b) 0 g2 (by omega) hP2 (fun g' x hP' => ?_)
      rw [← tb3 hb (by omega)] at hP'
      exact fin g' _ _ _ _ _ hP'
    · refine mj_brt (show ¬ nI q = nI 1 from fun z => hq ((nI_eq (by omega) (by omega)).mp z)) ?_
      obtain ⟨k, rfl⟩ : ∃ k, q = k + 1 := ⟨q - 1, by omega⟩
      have e3 : nI (k + 1) - mj_kc 1 = nI k := nI_pred k
      have e3c : (nI k).toNatClampNeg = k := nI_clamp (by omega)
      refine mj_b1 7 rfl (by rw [e3]; exact nI_ix (show k < 7 by omega) (by omega)) ?_
      rw [e3, e3c, hP2.2.2.2.2.1 k (by omega)]
      refine mj_b1 5 rfl (nI_ix (show k + 1 < 7 by omega) (by omega)) ?_
      rw [e0, hP2.2.2.2.2.1 (k + 1) (Nat.le_refl _)]
      refine mj_b0 2 rfl ?_
      have hlt := t0.2.2.2.2.2.2.2 k (by omega)
      have h1k : 1 ≤ bRs b k := by
        have : ∀ (j k : Nat), k = 1 + j → k ≤ br b + 1 → 1 ≤ bRs b k := by
          intro j
          induction j with
          | zero => intro k hk _; rw [hk, (tb5 hb).2.2.2.1]; exact Nat.le_refl _
          | succ j ih =>
            intro k hk hk2
            have a1 := ih (k - 1) (by omega) (by omega)
            have a2 := t0.2.2.2.2.2.2.2 (k - 1) (by omega)
            rw [show k - 1 + 1 = k by omega] at a2
            omega
        exact this (k - 1) k (by omega) (by omega)
      obtain ⟨k', rfl⟩ : ∃ k', k = k' + 1 := ⟨k - 1, by omega⟩
      have t5 := ((tb5 hb).2.2.2.2.2 k' (by omega)).1
      refine lm_ring hb (by omega) (by omega) (bRs b (k' + 1 + 1) - bRs b (k' + 1)) (bRs b (k' + 1)) g2 o7 o8 (by omega) (Nat.le_refl _) h1k (by
        have e5 : tNx b (k' + 1) (bRs b (k' + 1)) = bRs b (k' + 1 + 1) := by
          unfold tNx
          rw [if_pos hlt, t5]
        rw [e5]
        exact hP2) (fun g' y o7 o8 hP' => ?_)
      exact fin g' _ _ _ _ _ hP'
/-- COLOURS and LIFE are put back -/
theorem lm_clear {g : fG} {o4 o5 o6 o7 o8 : Option Value} {x1 x2 : Int32} {cc vv : fA} {c2 : fA × fA} {v2 : fA} {Q : Option Value → mj_H → Prop} : ∀ (j k : Nat) (c1 v1 : fA), j + k = 400 → (∀ i, i < k → c1 i = nI 0 ∧ v1 i = nI 0) → (∀ c1 v1, (∀ i, i < 400 → c1 i = nI 0 ∧ v1 i = nI 0) → mj_R (mj_C (d + 4)) 9 false none iX9_build (248, [some (.ref 35), some (.int x1), some (.int x2), some (.int (nI 400)), o4, o5, o6, o7, o8], [], fbP P (mdZ U s g w m t (c1, c2) (v1, v2) a)) Q) → mj_R (mj_C (d + 4)) 9 false none iX9_build (221, [some (.ref 35), some (.int x1), some (.int x2), some (.int (nI k)), o4, o5, o6, o7, o8], [], fbP P (mdZ U s g w m t (c1, c2) (v1, v2) a)) Q
  | 0, k, c1, v1, hj, hf, kk => by
    rw [Nat.zero_add] at hj
    subst hj
    refine mj_b0 40 rfl ?_
    refine mj_brt (show nI 400 ≤ nI 400 from nI_le (Nat.le_refl _) (by omega)) ?_
    exact kk c1 v1 hf
  | j + 1, k, c1, v1, hj, hf, kk => by
    have e1 : (nI k).toNatClampNeg = k := nI_clamp (by omega)
    have hi : vp_in (nI k) 400 := nI_ix (by omega) (by omega)
    refine mj_b0 40 rfl ?_
    refine mj_brf (show ¬ nI 400 ≤ nI k from nI_ge (by omega) (by omega)) ?_
    refine mj_b1 10 rfl ⟨hi, hi⟩ ?_
    refine mj_hq (h' := fbP P (mdZ U s g w m t (upd c1 k (nI 0), c2) (upd v1 k (nI 0), v2) a)) (Eq.trans (b := fbP P (mdZ U s g w m t (upd c1 (nI k).toNatClampNeg (nI 0), c2) (upd v1 (nI k).toNatClampNeg (vp_nar .boolean (nI 0)), v2) a)) rfl (by rw [e1]; rfl)) ?_
    refine mj_b0 2 rfl ?_
    have ih := lm_clear (Q := Q) (x1 := x1) (x2 := x2) (g := g) (o4 := o4) (o5 := o5) (o6 := o6) (o7 := o7) (o8 := o8) (cc := cc) (vv := vv) (c2 := c2) (v2 := v2) j (k + 1) (upd c1 k (nI 0)) (upd v1 k (nI 0)) (by omega) (fun i hi => by
      by_cases e : i = k
      · subst e; exact ⟨pk_us, pk_us⟩
      · rw [pk_un e, pk_un e]; exact hf i (by omega)) kk
    rw [← nI_add k 1] at ih
    exact ih
set_option maxRecDepth 20000 in
/-- the model's build -/
theorem x_mbuild {b : Nat} (hb : b < 22) (g : fG) : ∃ g' c1 v1, Bd b g' ∧ (∀ i, i < 400 → c1 i = nI 0 ∧ v1 i = nI 0) ∧ mj_C (d + 5) nX9_build [.ref 35, .int (nI (bp b)), .int (nI (br b))] (fbP P (mdZ U s g w m t c v a)) none (fbP P (mdZ U s g' w (nI 0, nI 0, nI 0, nI 0) t (c1, c.2) (v1, v.2) a)) := by
  have t0 := tb0 hb
  have t5 := tb5 hb
  obtain ⟨ro, fp, op, rs, fo, at_, sd, rg, cl⟩ := g
  obtain ⟨c1, c2⟩ := c
  obtain ⟨v1, v2⟩ := v
  obtain ⟨r, h', hc, rfl, g', c1', v1', hG, hf, rfl⟩ := mj_C.ex (y := nX9_build) (av := [.ref 35, .int (nI (bp b)), .int (nI (br b))]) (h := fbP P (mdZ U s (ro, fp, op, rs, fo, at_, sd, rg, cl) w m t (c1, c2) (v1, v2) a)) (d := d + 4) (Q := fun r h => r = none ∧ ∃ g' c1 v1, Bd b g' ∧ (∀ i, i < 400 → c1 i = nI 0 ∧ v1 i = nI 0) ∧ h = fbP P (mdZ U s g' w (nI 0, nI 0, nI 0, nI 0) t (c1, c2) (v1, v2) a)) rfl rfl rfl (by
    refine mj_b1 34 rfl ⟨⟨⟨⟨nI_ix (n := 0) (N := 7) (by omega) (by omega), nI_ix (n := 1) (N := 7) (by omega) (by omega)⟩, nI_ix (n := 0) (N := 400) (by omega) (by omega)⟩, nI_ix (n := 0) (N := 400) (by omega) (by omega)⟩, nI_ix (n := 0) (N := 400) (by omega) (by omega)⟩ ?_
    refine mj_hq (h' := fbP P (mdZ U s (upd ro 0 (nI 0), upd fp 0 NO, upd op 0 NO, upd (upd rs 0 (nI 0)) 1 (nI 1), fo, at_, nI (bp b), nI (br b), nI 1) w m t (c1, c2) (v1, v2) a)) rfl ?_
    refine mj_b0 2 rfl ?_
    refine lm_rings (d := d + 2) hb (fun g' x o4 o5 o6 o7 o8 hP' => ?_) (br b) 1 _ none none none none none (by omega) (Nat.le_refl 1) ?_
    · obtain ⟨g2, hB, hcl⟩ := x_mlay (P := P) (U := U) (s := s) (w := w) (m := m) (t := t) (c := (c1, c2)) (v := (v1, v2)) (a := a) (d := d) hb hP'
      refine mj_b0 40 rfl ?_
      refine mj_cV rfl rfl rfl rfl rfl rfl hcl ?_
      refine mj_b0 2 rfl ?_
      refine lm_clear (cc := c1) (vv := v1) 400 0 c1 v1 (by omega) (fun i hi => absurd hi (Nat.not_lt_zero i)) (fun c3 v3 hf => ?_)
      refine mj_b0 40 rfl ?_
      exact mj_end rfl rfl trivial ⟨rfl, g2, c3, v3, hB, hf, rfl⟩
    · rw [t5.2.2.2.1]
      refine ⟨rfl, rfl, rfl, fun x hx => ?_, fun j hj => ?_, fun x h1 h2 => by omega⟩
      · rw [show x = 0 by omega, t5.1, t5.2.1, t5.2.2.1]
        refine ⟨?_, ?_, ?_⟩
        · show upd ro 0 (nI 0) 0 = nI 0
          exact pk_us
        · show upd fp 0 NO 0 = NO
          exact pk_us
        · show upd op 0 NO 0 = NO
          exact pk_us
      · show upd (upd rs 0 (nI 0)) 1 (nI 1) j = _
        by_cases e : j = 1
        · rw [e, pk_us, t5.2.2.2.1]
        · rw [pk_un e, show j = 0 by omega, pk_us, t0.2.2.2.2.2.1])
  exact ⟨g', c1', v1', hG, hf, hc⟩
end MY
