/-! the model's rings -/
theorem Pb.rs0 {b n k m j0 : Nat} {ro fp op rs at_ : fA} {fo : fO} {sd rg cl : Int32} (h : Pb b n k m (ro, fp, op, rs, fo, at_, sd, rg, cl)) (x : Int32) (hx : x = nI (bRs b j0)) : Pb b n k m (ro, fp, op, upd rs j0 x, fo, at_, sd, rg, cl) := by
  obtain ⟨h1, h2, h3, h4, h5, h6⟩ := h
  refine ⟨h1, h2, h3, h4, fun j hj => ?_, h6⟩
  show upd rs j0 x j = _
  by_cases e : j = j0
  · subst e; rw [pk_us, hx]
  · rw [pk_un e]; exact h5 j hj
section MB
variable {P : fP} {U : fU} {s : fA × fA × fA} {w : fW} {m : fM} {t : fR} {c : fA × fA × fA} {v : fA × fA} {a : fA × Int32} {d : Nat}
theorem xm_add {b n k q : Nat} {g : fG} (h : Pb b n k q g) (hn : n < 400) : ∃ g', Pb b (n + 1) k q g' ∧ mj_C (d + 1) nX9_add [.ref 35, .int (nI (tRo b n)), .int (nv (tFp b n)), .int (nv (tOp b n))] (fbP P (mdZ U s g w m t c v a)) none (fbP P (mdZ U s g' w m t c v a)) := by
  obtain ⟨ro, fp, op, rs, fo, at_, sd, rg, cl⟩ := g
  have h3 : cl = nI n := h.2.2.1
  subst h3
  exact ⟨_, h.add, m_add hn _ _ _⟩
theorem xm_par {b n k q x : Nat} {g : fG} (hb : b < 22) (h : Pb b n k q g) (hx : x < n) (hxb : x < bn b) (h1 : 1 ≤ x) : mj_C (d + 1) nX9_parents [.ref 35, .int (nI x)] (fbP P (mdZ U s g w m t c v a)) (some (.int (nI (tPar b x)))) (fbP P (mdZ U s g w m t c v a)) := by
  have t0 := tb0 hb
  have hp := m_parents (P := P) (U := U) (s := s) (g := g) (w := w) (m := m) (t := t) (c := c) (v := v) (a := a) (d := d) (show x < 400 by omega)
  obtain ⟨-, a2, a3⟩ := h.2.2.2.1 x hx
  have e : (if gfp g x = NO then 0 else if gop g x = NO then 1 else 2) = tPar b x := by
    rw [a2, a3, if_neg (fun z => tb6 hb hxb h1 ((nv_NO (tFp_lt b x)).mp z))]
    unfold tPar
    by_cases q : tOp b x = 1023
    · rw [if_pos q, if_pos ((nv_NO (tOp_lt b x)).mpr q), if_neg (tb6 hb hxb h1)]
    · rw [if_neg q, if_neg (fun z => q ((nv_NO (tOp_lt b x)).mp z))]
  rw [e] at hp
  exact hp
theorem lm_first {b : Nat} {Q : Option Value → mj_H → Prop} {o5 o6 o7 o8 : Option Value} (hb : b < 22) (hr : 0 < br b) : ∀ (j i : Nat) (g : fG), j + i = bp b → Pb b (1 + i) 1 1 g → (∀ g' x, Pb b (1 + bp b) 1 1 g' → mj_R (mj_C (d + 2)) 9 false none iX9_build (197, [some (.ref 35), some (.int (nI (bp b))), some (.int (nI (br b))), some (.int (nI 1)), some (.int x), o5, o6, o7, o8], [], fbP P (mdZ U s g' w m t c v a)) Q) → mj_R (mj_C (d + 2)) 9 false none iX9_build (77, [some (.ref 35), some (.int (nI (bp b))), some (.int (nI (br b))), some (.int (nI 1)), some (.int (nI i)), o5, o6, o7, o8], [], fbP P (mdZ U s g w m t c v a)) Q
  | 0, i, g, hj, hP, kk => by
    have t0 := tb0 hb
    rw [Nat.zero_add] at hj
    subst hj
    refine mj_b0 40 rfl ?_
    refine mj_brt (nI_le (Nat.le_refl _) (by omega)) ?_
    refine mj_b0 1 rfl ?_
    exact kk g _ hP
  | j + 1, i, g, hj, hP, kk => by
    have t0 := tb0 hb
    have k3 := kall_ok kB3_all b hb
    simp only [kB3, Bool.and_eq_true, Bool.or_eq_true] at k3
    rcases k3 with k3 | k3
    · have := Nat.eq_of_beq_eq_true k3
      omega
    have k4 := kall_ok k3.2.2 i (by omega)
    simp only [Bool.and_eq_true] at k4
    obtain ⟨g', hP', hc⟩ := xm_add (P := P) (U := U) (s := s) (w := w) (m := m) (t := t) (c := c) (v := v) (a := a) (d := d + 1) hP (by omega)
    rw [Nat.eq_of_beq_eq_true k4.1, Nat.eq_of_beq_eq_true k4.2.1, Nat.eq_of_beq_eq_true k4.2.2] at hc
    refine mj_b0 40 rfl ?_
    refine mj_brf (nI_ge (by omega) (by omega)) ?_
    refine mj_b0 40 rfl ?_
    refine mj_cV rfl rfl rfl rfl rfl rfl hc ?_
    refine mj_b0 2 rfl ?_
    have ih := lm_first (Q := Q) (o5 := o5) (o6 := o6) (o7 := o7) (o8 := o8) hb hr j (i + 1) g' (by omega) hP' kk
    rw [← nI_add i 1] at ih
    exact ih
theorem lm_own {b x k : Nat} {Q : Option Value → mj_H → Prop} {x4 x5 : Int32} (hb : b < 22) (hc : x < bn b) (h1 : tRo b x = k) (hk0 : k ≠ 0) (hk : k < br b) : ∀ (j i : Nat) (g : fG), j + i = bp b - 4 - tPar b x → Pb b (tFo b x + i) (k + 1) 1 g → (∀ g' y, Pb b (tFo b x + (bp b - 4 - tPar b x)) (k + 1) 1 g' → mj_R (mj_C (d + 2)) 9 false none iX9_build (166, [some (.ref 35), some (.int (nI (bp b))), some (.int (nI (br b))), some (.int (nI (k + 1))), some (.int x4), some (.int x5), some (.int (nI x)), some (.int (nI (bp b - 4 - tPar b x))), some (.int y)], [], fbP P (mdZ U s g' w m t c v a)) Q) → mj_R (mj_C (d + 2)) 9 false none iX9_build (144, [some (.ref 35), some (.int (nI (bp b))), some (.int (nI (br b))), some (.int (nI (k + 1))), some (.int x4), some (.int x5), some (.int (nI x)), some (.int (nI (bp b - 4 - tPar b x))), some (.int (nI i))], [], fbP P (mdZ U s g w m t c v a)) Q
  | 0, i, g, hj, hP, kk => by
    have t0 := tb0 hb
    rw [Nat.zero_add] at hj
    refine mj_b0 40 rfl ?_
    refine mj_brt (nI_le (by omega) (by omega)) ?_
    rw [hj] at hP
    exact kk g _ hP
  | j + 1, i, g, hj, hP, kk => by
    have t0 := tb0 hb
    have t4 := tb4 hb hc (by omega) (by omega)
    obtain ⟨a1, a2, a3⟩ := t4.2.1 i (by omega)
    obtain ⟨g', hP', hcl⟩ := xm_add (P := P) (U := U) (s := s) (w := w) (m := m) (t := t) (c := c) (v := v) (a := a) (d := d + 1) hP (by omega)
    rw [a1, a2, a3, h1, nv_is (show x ≠ 1023 by omega)] at hcl
    refine mj_b0 40 rfl ?_
    refine mj_brf (nI_ge (by omega) (by omega)) ?_
    refine mj_b0 40 rfl ?_
    refine mj_cV rfl rfl rfl rfl rfl rfl hcl ?_
    refine mj_b0 2 rfl ?_
    have ih := lm_own (Q := Q) (x4 := x4) (x5 := x5) hb hc h1 hk0 hk j (i + 1) g' (by omega) hP' kk
    rw [← nI_add i 1] at ih
    exact ih
theorem lm_ring {b k : Nat} {Q : Option Value → mj_H → Prop} (hb : b < 22) (hk0 : k ≠ 0) (hk : k < br b) : ∀ (j x : Nat) (g : fG) (o7 o8 : Option Value), j + x = bRs b (k + 1) → bRs b k ≤ x → 1 ≤ x → Pb b (tNx b k x) (k + 1) 1 g → (∀ g' y o7 o8, Pb b (bRs b (k + 2)) (k + 1) 1 g' → mj_R (mj_C (d + 2)) 9 false none iX9_build (197, [some (.ref 35), some (.int (nI (bp b))), some (.int (nI (br b))), some (.int (nI (k + 1))), some (.int (nI (bRs b k))), some (.int (nI (bRs b (k + 1)))), some (.int y), o7, o8], [], fbP P (mdZ U s g' w m t c v a)) Q) → mj_R (mj_C (d + 2)) 9 false none iX9_build (122, [some (.ref 35), some (.int (nI (bp b))), some (.int (nI (br b))), some (.int (nI (k + 1))), some (.int (nI (bRs b k))), some (.int (nI (bRs b (k + 1)))), some (.int (nI x)), o7, o8], [], fbP P (mdZ U s g w m t c v a)) Q
  | 0, x, g, o7, o8, hj, hx, hx1, hP, kk => by
    have t0 := tb0 hb
    have t2 := tb_rs' hb (show k + 1 ≤ br b + 1 by omega)
    rw [Nat.zero_add] at hj
    refine mj_b0 40 rfl ?_
    refine mj_brt (nI_le (by omega) (by omega)) ?_
    have e2 : tNx b k x = bRs b (k + 2) := if_neg (by omega)
    rw [e2] at hP
    exact kk g _ _ _ hP
  | j + 1, x, g, o7, o8, hj, hx, hx1, hP, kk => by
    have t0 := tb0 hb
    have t2 := tb_rs' hb (show k + 1 ≤ br b + 1 by omega)
    have hcb : x < bn b := by omega
    obtain ⟨k', rfl⟩ : ∃ k', k = k' + 1 := ⟨k - 1, by omega⟩
    have hro : tRo b x = k' + 1 := ((tb5 hb).2.2.2.2.2 k' (by omega)).2 x hcb hx (show x < bRs b (k' + 1 + 1) by omega)
    have t4 := tb4 hb hcb (by omega) (by omega)
    have t7 := tb7 hb hcb (by omega) (by omega)
    rw [hro] at t4 t7
    have e4 : tNx b (k' + 1) x = tFo b x := if_pos (by omega)
    rw [e4] at hP
    have hfo : x < tFo b x := by omega
    have e5 : nI (bp b) - nI 4 - nI (tPar b x) = nI (bp b - 4 - tPar b x) := by rw [pk_sub (by omega), pk_sub (by omega)]
    have e6 : nI x + mj_kc 1 = nI (x + 1) := nI_add x 1
    refine mj_b0 40 rfl ?_
    refine mj_brf (nI_ge (by omega) (by omega)) ?_
    refine mj_b0 40 rfl ?_
    refine mj_cV rfl rfl rfl rfl rfl rfl (xm_par hb hP hfo hcb hx1) ?_
    refine mj_b0 4 rfl ?_
    show mj_R _ _ _ _ _ (_, [some (Value.ref 35), some (Value.int (nI (bp b))), some (Value.int (nI (br b))), some (Value.int (nI (k' + 1 + 1))), some (Value.int (nI (bRs b (k' + 1)))), some (Value.int (nI (bRs b (k' + 1 + 1)))), some (Value.int (nI x)), some (Value.int (nI (bp b) - nI 4 - nI (tPar b x))), some (Value.int (nI 0))], _, _) _
    rw [e5]
    refine lm_own (k := k' + 1) hb hcb hro (by omega) hk (bp b - 4 - tPar b x) 0 _ (by omega) hP (fun g' y hP' => ?_)
    obtain ⟨g2, hP3, hcl⟩ := xm_add (P := P) (U := U) (s := s) (w := w) (m := m) (t := t) (c := c) (v := v) (a := a) (d := d + 1) hP' (by omega)
    have hbe : tBeh b x ≠ 1023 := by
      unfold tBeh
      have := tb_rs' hb (show tRo b x ≤ br b + 1 by omega)
      split <;> omega
    rw [t4.2.2.1, t4.2.2.2.1, t4.2.2.2.2.1, nv_is (show x ≠ 1023 by omega), nv_is hbe] at hcl
    have fin : ∀ z : Int32, z = nI (tBeh b x) → mj_R (mj_C (d + 2)) 9 false none iX9_build (188, [some (.ref 35), some (.int (nI (bp b))), some (.int (nI (br b))), some (.int (nI (k' + 1 + 1))), some (.int (nI (bRs b (k' + 1)))), some (.int (nI (bRs b (k' + 1 + 1)))), some (.int (nI x)), some (.int (nI (bp b - 4 - tPar b x))), some (.int y)], [.int z, .int (nI x), .int (nI (k' + 1 + 1)), .ref 35], fbP P (mdZ U s g' w m t c v a)) Q := by
      intro z hz
      subst hz
      refine mj_cV rfl rfl rfl rfl rfl rfl hcl ?_
      refine mj_b0 2 rfl ?_
      have ih := lm_ring (Q := Q) hb hk0 hk j (x + 1) g2 (some (.int (nI (bp b - 4 - tPar b x)))) (some (.int y)) (by omega) (by omega) (by omega) (by
        have e7 : tNx b (k' + 1) (x + 1) = tFo b x + (bp b - 4 - tPar b x) + 1 := t4.2.2.2.2.2.2
        rw [e7]
        exact hP3) kk
      rw [← nI_add x 1] at ih
      exact ih
    refine mj_b0 40 rfl ?_
    rw [e6]
    by_cases hq : x + 1 < bRs b (k' + 1 + 1)
    · refine mj_brt (fun z => by
        have := (nI_eq (show x + 1 < 2 ^ 31 by omega) (show bRs b (k' + 1 + 1) < 2 ^ 31 by omega)).mp z
        omega) ?_
      refine mj_b0 3 rfl ?_
      refine fin _ ?_
      show nI x + mj_kc 1 = _
      rw [e6]
      unfold tBeh
      rw [hro, if_pos hq]
    · refine mj_brf (fun z => z (by rw [show x + 1 = bRs b (k' + 1 + 1) by omega])) ?_
      refine mj_b0 2 rfl ?_
      refine fin _ ?_
      unfold tBeh
      rw [hro, if_neg hq]
end MB
