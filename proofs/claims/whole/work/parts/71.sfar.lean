/-! promises 11, 12 and 14, side by side: the model, and both -/
section FM
variable {P : fP} {U : fU} {s : fA × fA × fA} {g : fG} {wr : fL × fL} {m : fM} {t : fR} {c : fA × fA × fA} {v : fA × fA} {a : fA × Int32} {d : Nat}
theorem x_maround {b x : Nat} {y : Int32} {y1 : fA} {y2 : fL} {y3 : fA} (hb : b < 22) (h : Bd b g) (hx : x < bn b) (hy : ¬ y < 0 ∧ ¬ nI 20 < y) : ∃ z1 z2 z3, mj_C (d + 3) nX9_around [.ref 35, .int (nI x), .int y] (fbP P (mdZ U s g (y1, y2, y3, wr) m t c v a)) (some (.int (sm (fun k => if nv ((bfs b x).1 k) = y then nI 1 else nI 0) (bn b)))) (fbP P (mdZ (nI 0, U.2) s g (z1, z2, z3, wr) m t c v a)) := by
  have t0 := tb0 hb
  obtain ⟨z1, z2, z3, g1, g2⟩ := x_spread (P := P) (U := (nI 0, U.2)) (s := s) (wr := wr) (m := m) (t := t) (c := c) (v := v) (a := a) (d := d + 1) (y1 := y1) (y2 := y2) (y3 := y3) hb h hx
  have g1' : bRm b (bfs b x) z1 z2 z3 := g1
  refine ⟨z1, z2, z3, ?_⟩
  refine mj_C.of rfl rfl rfl ?_
  refine mj_b0 40 rfl ?_
  refine mj_hq (h' := fbP P (mdZ (nI 0, U.2) s g (y1, y2, y3, wr) m t c v a)) rfl ?_
  refine mj_cV rfl rfl rfl rfl rfl rfl (xm_isCell hb h (nI x)) ?_
  refine mj_b0 40 rfl ?_
  refine mj_brf (fun z => vB_0.mp z (okb hb hx)) ?_
  refine mj_b0 40 rfl ?_
  refine mj_cS rfl rfl rfl rfl (m_in32 y 0 (nI 20) (by decide) (by decide)) ?_
  refine mj_b0 40 rfl ?_
  refine mj_brt (fun z => vB_0.mp z hy) ?_
  refine mj_b0 40 rfl ?_
  refine mj_cV rfl rfl rfl rfl rfl rfl (g2) ?_
  refine mj_b0 4 rfl ?_
  refine mj_iter (fun k => (38, [some (.ref 35), some (.int (nI x)), some (.int y), some (.int (sm (fun k => if nv ((bfs b x).1 k) = y then nI 1 else nI 0) k)), some (.int (nI k))], [], fbP P (mdZ (nI 0, U.2) s g (z1, z2, z3, wr) m t c v a))) (bn b) (fun k hk ih => ?_) ?_
  · have e1 : (nI k).toNatClampNeg = k := nI_clamp (by omega)
    rw [← nI_add k 1] at ih
    simp only [sm] at ih
    refine mj_b0 40 rfl ?_
    refine mj_brf (by rw [bd_cl h]; exact nI_ge hk (by omega)) ?_
    refine mj_b1 40 rfl (nI_ix (show k < 400 by omega) (by omega)) ?_
    rw [e1, show (z1, z2, z3, wr).1 k = nv ((bfs b x).1 k) from (g1'.1 k hk).1]
    by_cases q : nv ((bfs b x).1 k) = y
    · refine mj_brf (fun z => z q) ?_
      refine mj_b0 6 rfl ?_
      rw [if_pos q] at ih
      exact ih
    · refine mj_brt (q) ?_
      refine mj_b0 5 rfl ?_
      rw [if_neg q] at ih
      exact ih
  · refine mj_b0 40 rfl ?_
    refine mj_brt (by rw [bd_cl h]; exact nI_le (by omega) (by omega)) ?_
    refine mj_b0 40 rfl ?_
    exact mj_end rfl rfl trivial ⟨rfl, rfl⟩
theorem x_mfar {b x j k : Nat} {y1 : fA} {y2 : fL} {y3 : fA} (hb : b < 22) (h : Bd b g) (hx : x < bn b) (hj : j < bn b) (hk : k < 2) : ∃ z1 z2 z3, mj_C (d + 3) nX9_far [.ref 35, .int (nI x), .int (nI j), .int (nI k)] (fbP P (mdZ U s g (y1, y2, y3, wr) m t c v a)) (some (.int (if k = 0 then nv ((bfs b x).1 j) else nI ((bfs b x).2.1 j)))) (fbP P (mdZ (nI 0, U.2) s g (z1, z2, z3, wr) m t c v a)) := by
  have t0 := tb0 hb
  have e1 : (nI j).toNatClampNeg = j := nI_clamp (by omega)
  have ij : vp_in (nI j) 400 := nI_ix (show j < 400 by omega) (by omega)
  obtain ⟨z1, z2, z3, g1, g2⟩ := x_spread (P := P) (U := (nI 0, U.2)) (s := s) (wr := wr) (m := m) (t := t) (c := c) (v := v) (a := a) (d := d + 1) (y1 := y1) (y2 := y2) (y3 := y3) hb h hx
  have g1' : bRm b (bfs b x) z1 z2 z3 := g1
  refine ⟨z1, z2, z3, ?_⟩
  refine mj_C.of rfl rfl rfl ?_
  refine mj_b0 40 rfl ?_
  refine mj_hq (h' := fbP P (mdZ (nI 0, U.2) s g (y1, y2, y3, wr) m t c v a)) rfl ?_
  refine mj_cV rfl rfl rfl rfl rfl rfl (xm_isCell hb h (nI x)) ?_
  refine mj_b0 40 rfl ?_
  refine mj_brf (fun z => vB_0.mp z (okb hb hx)) ?_
  refine mj_b0 40 rfl ?_
  refine mj_cV rfl rfl rfl rfl rfl rfl (xm_isCell hb h (nI j)) ?_
  refine mj_b0 40 rfl ?_
  refine mj_brf (fun z => vB_0.mp z (okb hb hj)) ?_
  refine mj_b0 40 rfl ?_
  refine mj_cS rfl rfl rfl rfl (m_in32 (nI k) 0 (nI 1) (by decide) (by decide)) ?_
  refine mj_b0 40 rfl ?_
  refine mj_brt (fun z => vB_0.mp z (nin_ok (by omega) hk)) ?_
  refine mj_b0 40 rfl ?_
  refine mj_cV rfl rfl rfl rfl rfl rfl (g2) ?_
  refine mj_b0 40 rfl ?_
  rcases (show k = 0 ∨ k = 1 by omega) with rfl | rfl
  · refine mj_brf (show ¬ ¬ nI 0 = 0 by decide) ?_
    refine mj_b1 40 rfl (ij) ?_
    rw [e1]
    exact mj_end rfl rfl trivial ⟨by rw [show (z1, z2, z3, wr).1 j = nv ((bfs b x).1 j) from (g1'.1 j hj).1]; rfl, rfl⟩
  · refine mj_brt (show ¬ nI 1 = 0 by decide) ?_
    refine mj_b1 40 rfl (ij) ?_
    rw [e1]
    exact mj_end rfl rfl trivial ⟨by rw [show (z1, z2, z3, wr).2.1 j = lN ((bfs b x).2.1 j) from (g1'.1 j hj).2, lN_i]; rfl, rfl⟩
theorem neg_m1 {n q : Nat} (h : q < n) : nI (n - q) - nI 1 + -(nI 1) = nI (n - (q + 1)) - nI 1 := by
  rw [← Int32.sub_eq_add_neg, pk_sub (show 1 ≤ n - q by omega), show n - q - 1 = n - (q + 1) by omega]
theorem x_mway {b x e : Nat} {y : Int32} {y1 : fA} {y2 : fL} {y3 : fA} (hb : b < 22) (h : Bd b g) (hx : x < bn b) (he : e < bn b) (hy : ¬ y < 0) : ∃ z1 z2 z3, mj_C (d + 3) nX9_way [.ref 35, .int (nI x), .int (nI e), .int y] (fbP P (mdZ U s g (y1, y2, y3, wr) m t c v a)) (some (.int (wyA b x e y))) (fbP P (mdZ (nI 0, U.2) s g (z1, z2, z3, wr) m t c v a)) := by
  have t0 := tb0 hb
  have hi := bfs_inv hb he
  have e1 : (nI x).toNatClampNeg = x := nI_clamp (by omega)
  obtain ⟨z1, z2, z3, g1, g2⟩ := x_spread (P := P) (U := (nI 0, U.2)) (s := s) (wr := wr) (m := m) (t := t) (c := c) (v := v) (a := a) (d := d + 1) (y1 := y1) (y2 := y2) (y3 := y3) hb h he
  have g1' : bRm b (bfs b e) z1 z2 z3 := g1
  refine ⟨z1, z2, z3, ?_⟩
  refine mj_C.of rfl rfl rfl ?_
  refine mj_b0 40 rfl ?_
  refine mj_hq (h' := fbP P (mdZ (nI 0, U.2) s g (y1, y2, y3, wr) m t c v a)) rfl ?_
  refine mj_cV rfl rfl rfl rfl rfl rfl (xm_isCell hb h (nI x)) ?_
  refine mj_b0 40 rfl ?_
  refine mj_brf (fun z => vB_0.mp z (okb hb hx)) ?_
  refine mj_b0 40 rfl ?_
  refine mj_cV rfl rfl rfl rfl rfl rfl (xm_isCell hb h (nI e)) ?_
  refine mj_b0 40 rfl ?_
  refine mj_brf (fun z => vB_0.mp z (okb hb he)) ?_
  refine mj_b0 40 rfl ?_
  refine mj_brt (show 0 ≤ y by
    rw [Int32.lt_iff_toInt_lt] at hy
    rw [Int32.le_iff_toInt_le]
    omega) ?_
  refine mj_b0 40 rfl ?_
  refine mj_cV rfl rfl rfl rfl rfl rfl (g2) ?_
  refine mj_b1 40 rfl (nI_ix (show x < 400 by omega) (by omega)) ?_
  rw [e1, show (z1, z2, z3, wr).1 x = nv ((bfs b e).1 x) from (g1'.1 x hx).1]
  by_cases q : y ≤ nv ((bfs b e).1 x)
  · obtain ⟨i, rfl, i1, i2, i3⟩ := wy_in hb hx he hy q
    have e2 : (nI i).toNatClampNeg = i := nI_clamp (by omega)
    refine mj_brt (q) ?_
    refine mj_b0 4 rfl ?_
    refine mj_itJ (fun k (o : Option Value × Option Value × Option Value) => (52, [some (.ref 35), some (.int (nI x)), some (.int (nI e)), some (.int (nI i)), some (.int (nI (pth b (bfs b e).1 x k))), some (.int (nI k)), o.1, o.2.1, o.2.2], [], fbP P (mdZ (nI 0, U.2) s g (z1, z2, z3, wr) m t c v a))) i (fun k o hk ih => ?_) (fun o => ?_) (none, none, none)
    · obtain ⟨p1, p2, p3⟩ := pth_in hb hi hx i2 k (by omega)
      obtain ⟨n1, n2, n3⟩ := nr_in hb hi p1 p3 (by omega)
      have t1 := tb1 hb p1
      have h4 : (bfs b e).1 (pth b (bfs b e).1 x k) < 400 := (hi.d hb p1).resolve_left p3
      have e3 : (nI (pth b (bfs b e).1 x k)).toNatClampNeg = pth b (bfs b e).1 x k := nI_clamp (by omega)
      have ic : vp_in (nI (pth b (bfs b e).1 x k)) 400 := nI_ix (show pth b (bfs b e).1 x k < 400 by omega) (by omega)
      refine mj_b0 40 rfl ?_
      refine mj_brf (nI_ge hk (by omega)) ?_
      refine mj_b0 7 rfl ?_
      refine mj_sq (S' := (70, [some (.ref 35), some (.int (nI x)), some (.int (nI e)), some (.int (nI i)), some (.int (nI (pth b (bfs b e).1 x k))), some (.int (nI k)), some (.int NO), some (.int (nI (bp b - 0) - nI 1)), o.2.2], [], fbP P (mdZ (nI 0, U.2) s g (z1, z2, z3, wr) m t c v a))) (by rw [Nat.sub_zero, ← bd_sd h] <;> rfl) ?_
      refine mj_itJ (fun r (o : Option Value) => (70, [some (.ref 35), some (.int (nI x)), some (.int (nI e)), some (.int (nI i)), some (.int (nI (pth b (bfs b e).1 x k))), some (.int (nI k)), some (.int (nv (nrS b (bfs b e).1 (pth b (bfs b e).1 x k) r (bp b - r)))), some (.int (nI (bp b - r) - nI 1)), o], [], fbP P (mdZ (nI 0, U.2) s g (z1, z2, z3, wr) m t c v a))) (bp b) (fun r o hr ir => ?_) (fun o => ?_) o.2.2
      · have hs : bp b - (r + 1) < bp b := by omega
        have es : nI (bp b - r) - nI 1 = nI (bp b - (r + 1)) := by rw [pk_sub (by omega), show bp b - r - 1 = bp b - (r + 1) by omega]
        have e5 : nI 10 * nI (pth b (bfs b e).1 x k) + nI (bp b - (r + 1)) = nI (pth b (bfs b e).1 x k * 10 + (bp b - (r + 1))) := by rw [pk_mul, nI_add, Nat.mul_comm]
        have e6 : (nI (pth b (bfs b e).1 x k * 10 + (bp b - (r + 1)))).toNatClampNeg = pth b (bfs b e).1 x k * 10 + (bp b - (r + 1)) := nI_clamp (by omega)
        have hx' : tAt b (pth b (bfs b e).1 x k) (bp b - (r + 1)) = 1023 ∨ tAt b (pth b (bfs b e).1 x k) (bp b - (r + 1)) < bn b := (t1.2.2.2.2.2 _ hs).imp_right (fun z => z.1)
        refine mj_b0 40 rfl ?_
        refine mj_brf (by rw [es]; exact nI_pos (by omega)) ?_
        refine mj_b1 8 rfl (by show vp_in (nI 10 * nI (pth b (bfs b e).1 x k) + (nI (bp b - r) - nI 1)) 4000; rw [es, e5]; exact nI_ix (by omega) (by omega)) ?_
        refine mj_sq (S' := (88, [some (.ref 35), some (.int (nI x)), some (.int (nI e)), some (.int (nI i)), some (.int (nI (pth b (bfs b e).1 x k))), some (.int (nI k)), some (.int (nv (nrS b (bfs b e).1 (pth b (bfs b e).1 x k) r (bp b - r)))), some (.int (nI (bp b - r) - nI 1)), o], [.int (nv (tAt b (pth b (bfs b e).1 x k) (bp b - (r + 1))))], fbP P (mdZ (nI 0, U.2) s g (z1, z2, z3, wr) m t c v a))) (by
          rw [← bd_at h p1 hs, ← e6, ← e5, ← es] <;> rfl) ?_
        refine mj_b0 40 rfl ?_
        by_cases q2 : tAt b (pth b (bfs b e).1 x k) (bp b - (r + 1)) = 1023
        · have ir := ir (some (.int (nv (tAt b (pth b (bfs b e).1 x k) (bp b - (r + 1))))))
          simp only [nrS] at ir
          rw [if_neg (fun z : tAt b (pth b (bfs b e).1 x k) (bp b - (r + 1)) ≠ 1023 ∧ (bfs b e).1 (tAt b (pth b (bfs b e).1 x k) (bp b - (r + 1))) + 1 = (bfs b e).1 (pth b (bfs b e).1 x k) => z.1 q2), show bp b - (r + 1) + 1 = bp b - r by omega, ← neg_m1 hr] at ir
          refine mj_brt (by rw [q2]; rfl) ?_
          refine mj_b0 4 rfl ?_
          exact ir
        · have hx2 := hx'.resolve_left q2
          have e7 : (nI (tAt b (pth b (bfs b e).1 x k) (bp b - (r + 1)))).toNatClampNeg = tAt b (pth b (bfs b e).1 x k) (bp b - (r + 1)) := nI_clamp (by omega)
          have d4 := hi.d hb hx2
          have ir := ir (some (.int (nI (tAt b (pth b (bfs b e).1 x k) (bp b - (r + 1))))))
          simp only [nrS] at ir
          rw [← neg_m1 hr] at ir
          refine mj_brf (fun z => q2 ((nv_NO (tAt_lt _ _ _)).mp z)) ?_
          rw [nv_is q2]
          refine mj_b1 40 rfl (⟨nI_ix (show tAt b (pth b (bfs b e).1 x k) (bp b - (r + 1)) < 400 by omega) (by omega), ic⟩) ?_
          rw [e3, e7, show (z1, z2, z3, wr).1 (tAt b (pth b (bfs b e).1 x k) (bp b - (r + 1))) = nv ((bfs b e).1 (tAt b (pth b (bfs b e).1 x k) (bp b - (r + 1)))) from (g1'.1 _ hx2).1, show (z1, z2, z3, wr).1 (pth b (bfs b e).1 x k) = nv ((bfs b e).1 (pth b (bfs b e).1 x k)) from (g1'.1 _ p1).1, show nv ((bfs b e).1 (pth b (bfs b e).1 x k)) - mj_kc 1 = nv ((bfs b e).1 (pth b (bfs b e).1 x k) - 1) from nv_m1 (by omega) h4]
          by_cases q3 : (bfs b e).1 (tAt b (pth b (bfs b e).1 x k) (bp b - (r + 1))) + 1 = (bfs b e).1 (pth b (bfs b e).1 x k)
          · rw [if_pos ⟨q2, q3⟩, nv_is q2] at ir
            refine mj_brf (fun z => z (by rw [show (bfs b e).1 (pth b (bfs b e).1 x k) - 1 = (bfs b e).1 (tAt b (pth b (bfs b e).1 x k) (bp b - (r + 1))) by omega])) ?_
            refine mj_b0 5 rfl ?_
            exact ir
          · rw [if_neg (fun z : tAt b (pth b (bfs b e).1 x k) (bp b - (r + 1)) ≠ 1023 ∧ (bfs b e).1 (tAt b (pth b (bfs b e).1 x k) (bp b - (r + 1))) + 1 = (bfs b e).1 (pth b (bfs b e).1 x k) => q3 z.2), show bp b - (r + 1) + 1 = bp b - r by omega] at ir
            refine mj_brt (fun z => q3 (by have := (nv_eq (by omega) (by omega)).mp z; omega)) ?_
            refine mj_b0 4 rfl ?_
            exact ir
      · have ih := ih (some (.int (nI (nrS b (bfs b e).1 (pth b (bfs b e).1 x k) (bp b) 0))), some (.int (nI 0 - nI 1)), o)
        rw [← nI_add k 1] at ih
        rw [Nat.sub_self, nv_is n1]
        refine mj_b0 40 rfl ?_
        refine mj_brt (show nI 0 - nI 1 < 0 by decide) ?_
        refine mj_b0 4 rfl ?_
        exact ih
    · refine mj_b0 40 rfl ?_
      refine mj_brt (nI_le (by omega) (by omega)) ?_
      refine mj_b0 40 rfl ?_
      exact mj_end rfl rfl trivial ⟨by unfold wyA; rw [if_pos q, e2], rfl⟩
  · refine mj_brf (q) ?_
    refine mj_b0 40 rfl ?_
    exact mj_end rfl rfl trivial ⟨by unfold wyA; rw [if_neg q], rfl⟩
end FM
section FS
variable {d : Nat}
/-- promise 11 -/
theorem s_far (x y n : Int32) : Sim (d + 4) nX8_far nX9_far [.int x, .int y, .int n] := by
  refine Sim.board (fun b hb => ?_)
  have t0 := tb0 hb
  by_cases q : (¬ x < 0 ∧ ¬ nI (bn b) ≤ x) ∧ (¬ y < 0 ∧ ¬ nI (bn b) ≤ y) ∧ (¬ n < 0 ∧ ¬ nI 1 < n)
  · obtain ⟨q1, q2, q3⟩ := q
    rcases ixb hb x with z | ⟨i, hi, rfl⟩
    · exact absurd q1 z
    rcases ixb hb y with z | ⟨j, hj, rfl⟩
    · exact absurd q2 z
    rcases ixn n (n := 2) (by omega) with ⟨-, z⟩ | ⟨k, hk, rfl⟩
    · exact absurd q3 (nin_no (by omega) z)
    refine ⟨if k = 0 then nv ((bfs b i).1 j) else nI ((bfs b i).2.1 j), fun sc F S G Y M T C V A Z h hy => ?_, fun P U s g w m t c v a h => ?_⟩
    · obtain ⟨y1, y2, y3, yr⟩ := Y
      obtain ⟨z1, z2, z3, g1, g2⟩ := x_measure (sc := sc) (F := F) (S := S) (yr := yr) (M := M) (T := T) (C := C) (V := V) (A := A) (Z := Z) (d := d) (y1 := y1) (y2 := y2) (y3 := y3) hb h hi
      have g1' : bRc b (bfs b i) z1 z2 z3 := g1
      have e1 : (nI j).toNatClampNeg = j := nI_clamp (by omega)
      have ij : vp_in (nI j) 400 := nI_ix (show j < 400 by omega) (by omega)
      refine ⟨(z1, z2, z3, yr), C.2, hy, ?_⟩
      refine mj_C.of rfl rfl rfl ?_
      refine mj_b0 40 rfl ?_
      refine mj_cV rfl rfl rfl rfl rfl rfl (x_has h (nI i)) ?_
      refine mj_b0 40 rfl ?_
      refine mj_brf (fun z => vB_0.mp z (okb hb hi)) ?_
      refine mj_b0 40 rfl ?_
      refine mj_cV rfl rfl rfl rfl rfl rfl (x_has h (nI j)) ?_
      refine mj_b0 40 rfl ?_
      refine mj_brf (fun z => vB_0.mp z (okb hb hj)) ?_
      refine mj_b0 40 rfl ?_
      refine mj_brf (q3.1) ?_
      refine mj_b0 40 rfl ?_
      refine mj_brt (show nI k ≤ nI 1 from nI_le (by omega) (by omega)) ?_
      refine mj_b0 40 rfl ?_
      refine mj_cV rfl rfl rfl rfl rfl rfl (g2) ?_
      refine mj_b0 40 rfl ?_
      rcases (show k = 0 ∨ k = 1 by omega) with rfl | rfl
      · refine mj_brf (show ¬ ¬ nI 0 = 0 by decide) ?_
        refine mj_b1 40 rfl (ij) ?_
        rw [e1]
        exact mj_end rfl rfl trivial ⟨by rw [show (z1, z2, z3, yr).1 j = nv ((bfs b i).1 j) from (g1'.1 j hj).1]; rfl, rfl⟩
      · refine mj_brt (show ¬ nI 1 = 0 by decide) ?_
        refine mj_b1 40 rfl (ij) ?_
        rw [e1]
        exact mj_end rfl rfl trivial ⟨by rw [show (z1, z2, z3, yr).2.1 j = nI ((bfs b i).2.1 j) from (g1'.1 j hj).2]; rfl, rfl⟩
    · obtain ⟨y1, y2, y3, wr⟩ := w
      obtain ⟨z1, z2, z3, g2⟩ := x_mfar (P := P) (U := U) (s := s) (wr := wr) (m := m) (t := t) (c := c) (v := v) (a := a) (d := d + 1) (y1 := y1) (y2 := y2) (y3 := y3) hb h hi hj hk
      exact ⟨(z1, z2, z3, wr), c.2, g2⟩
  · refine ⟨BD, fun sc F S G Y M T C V A Z h hy => ⟨Y, C.2, hy, ?_⟩, fun P U s g w m t c v a h => ⟨w, c.2, ?_⟩⟩
    · refine mj_C.of rfl rfl rfl ?_
      refine mj_b0 40 rfl ?_
      refine mj_cV rfl rfl rfl rfl rfl rfl (x_has h x) ?_
      refine mj_b0 40 rfl ?_
      by_cases q1 : ¬ x < 0 ∧ ¬ nI (bn b) ≤ x
      · refine mj_brf (fun z => vB_0.mp z q1) ?_
        refine mj_b0 40 rfl ?_
        refine mj_cV rfl rfl rfl rfl rfl rfl (x_has h y) ?_
        refine mj_b0 40 rfl ?_
        by_cases q2 : ¬ y < 0 ∧ ¬ nI (bn b) ≤ y
        · refine mj_brf (fun z => vB_0.mp z q2) ?_
          refine mj_b0 40 rfl ?_
          refine mj_br (fun q3 => ?_) (fun q3 => ?_)
          · refine mj_b0 40 rfl ?_
            exact mj_end rfl rfl trivial ⟨rfl, rfl⟩
          · refine mj_b0 40 rfl ?_
            refine mj_br (fun q4 => ?_) (fun q4 => ?_)
            · exact absurd ⟨q1, q2, q3, fun z => by
                have q6 : n ≤ nI 1 := q4
                rw [Int32.le_iff_toInt_le] at q6
                rw [Int32.lt_iff_toInt_lt] at z
                omega⟩ q
            · refine mj_b0 40 rfl ?_
              exact mj_end rfl rfl trivial ⟨rfl, rfl⟩
        · refine mj_brt (vB_0.mpr q2) ?_
          refine mj_b0 40 rfl ?_
          exact mj_end rfl rfl trivial ⟨rfl, rfl⟩
      · refine mj_brt (vB_0.mpr q1) ?_
        refine mj_b0 40 rfl ?_
        exact mj_end rfl rfl trivial ⟨rfl, rfl⟩
    · refine mj_C.of rfl rfl rfl ?_
      refine mj_b0 40 rfl ?_
      refine mj_hq (h' := (fbP P (mdZ (nI 0, U.2) s g w m t c v a))) rfl ?_
      refine mj_cV rfl rfl rfl rfl rfl rfl (xm_isCell hb h x) ?_
      refine mj_b0 40 rfl ?_
      by_cases q1 : ¬ x < 0 ∧ ¬ nI (bn b) ≤ x
      · refine mj_brf (fun z => vB_0.mp z q1) ?_
        refine mj_b0 40 rfl ?_
        refine mj_cV rfl rfl rfl rfl rfl rfl (xm_isCell hb h y) ?_
        refine mj_b0 40 rfl ?_
        by_cases q2 : ¬ y < 0 ∧ ¬ nI (bn b) ≤ y
        · refine mj_brf (fun z => vB_0.mp z q2) ?_
          refine mj_b0 40 rfl ?_
          refine mj_cS rfl rfl rfl rfl (m_in32 n 0 (nI 1) (by decide) (by decide)) ?_
          refine mj_b0 40 rfl ?_
          refine mj_brf (fun z => z (vB_0.mpr (fun z2 => q ⟨q1, q2, z2⟩))) ?_
          refine mj_b0 40 rfl ?_
          exact mj_end rfl rfl trivial ⟨rfl, rfl⟩
        · refine mj_brt (vB_0.mpr q2) ?_
          refine mj_b0 40 rfl ?_
          exact mj_end rfl rfl trivial ⟨rfl, rfl⟩
      · refine mj_brt (vB_0.mpr q1) ?_
        refine mj_b0 40 rfl ?_
        exact mj_end rfl rfl trivial ⟨rfl, rfl⟩
/-- promise 12 -/
theorem s_way (x y n : Int32) : Sim (d + 5) nX8_way nX9_way [.int x, .int y, .int n] := by
  refine Sim.board (fun b hb => ?_)
  have t0 := tb0 hb
  by_cases q : (¬ x < 0 ∧ ¬ nI (bn b) ≤ x) ∧ (¬ y < 0 ∧ ¬ nI (bn b) ≤ y) ∧ ¬ n < 0
  · obtain ⟨q1, q2, q3⟩ := q
    rcases ixb hb x with z | ⟨i, hi, rfl⟩
    · exact absurd q1 z
    rcases ixb hb y with z | ⟨j, hj, rfl⟩
    · exact absurd q2 z
    refine ⟨wyA b i j n, fun sc F S G Y M T C V A Z h hy => ?_, fun P U s g w m t c v a h => ?_⟩
    · obtain ⟨y1, y2, y3, yr⟩ := Y
      obtain ⟨z1, z2, z3, g2⟩ := x_way (sc := sc) (F := F) (S := S) (yr := yr) (M := M) (T := T) (C := C) (V := V) (A := A) (Z := Z) (d := d) (y1 := y1) (y2 := y2) (y3 := y3) hb h hi hj q3
      refine ⟨(z1, z2, z3, yr), C.2, hy, ?_⟩
      refine mj_C.of rfl rfl rfl ?_
      refine mj_b0 40 rfl ?_
      refine mj_cV rfl rfl rfl rfl rfl rfl (x_has h (nI i)) ?_
      refine mj_b0 40 rfl ?_
      refine mj_brf (fun z => vB_0.mp z (okb hb hi)) ?_
      refine mj_b0 40 rfl ?_
      refine mj_cV rfl rfl rfl rfl rfl rfl (x_has h (nI j)) ?_
      refine mj_b0 40 rfl ?_
      refine mj_brf (fun z => vB_0.mp z (okb hb hj)) ?_
      refine mj_b0 40 rfl ?_
      refine mj_brt (show 0 ≤ n by
        rw [Int32.lt_iff_toInt_lt] at q3
        rw [Int32.le_iff_toInt_le]
        omega) ?_
      refine mj_b0 40 rfl ?_
      refine mj_cV rfl rfl rfl rfl rfl rfl (g2) ?_
      exact mj_end rfl rfl trivial ⟨rfl, rfl⟩
    · obtain ⟨y1, y2, y3, wr⟩ := w
      obtain ⟨z1, z2, z3, g2⟩ := x_mway (P := P) (U := U) (s := s) (wr := wr) (m := m) (t := t) (c := c) (v := v) (a := a) (d := d + 2) (y1 := y1) (y2 := y2) (y3 := y3) hb h hi hj q3
      exact ⟨(z1, z2, z3, wr), c.2, g2⟩
  · refine ⟨BD, fun sc F S G Y M T C V A Z h hy => ⟨Y, C.2, hy, ?_⟩, fun P U s g w m t c v a h => ⟨w, c.2, ?_⟩⟩
    · refine mj_C.of rfl rfl rfl ?_
      refine mj_b0 40 rfl ?_
      refine mj_cV rfl rfl rfl rfl rfl rfl (x_has h x) ?_
      refine mj_b0 40 rfl ?_
      by_cases q1 : ¬ x < 0 ∧ ¬ nI (bn b) ≤ x
      · refine mj_brf (fun z => vB_0.mp z q1) ?_
        refine mj_b0 40 rfl ?_
        refine mj_cV rfl rfl rfl rfl rfl rfl (x_has h y) ?_
        refine mj_b0 40 rfl ?_
        by_cases q2 : ¬ y < 0 ∧ ¬ nI (bn b) ≤ y
        · refine mj_brf (fun z => vB_0.mp z q2) ?_
          refine mj_b0 40 rfl ?_
          refine mj_brf (fun z => q ⟨q1, q2, nlt0 z⟩) ?_
          refine mj_b0 40 rfl ?_
          exact mj_end rfl rfl trivial ⟨rfl, rfl⟩
        · refine mj_brt (vB_0.mpr q2) ?_
          refine mj_b0 40 rfl ?_
          exact mj_end rfl rfl trivial ⟨rfl, rfl⟩
      · refine mj_brt (vB_0.mpr q1) ?_
        refine mj_b0 40 rfl ?_
        exact mj_end rfl rfl trivial ⟨rfl, rfl⟩
    · refine mj_C.of rfl rfl rfl ?_
      refine mj_b0 40 rfl ?_
      refine mj_hq (h' := (fbP P (mdZ (nI 0, U.2) s g w m t c v a))) rfl ?_
      refine mj_cV rfl rfl rfl rfl rfl rfl (xm_isCell hb h x) ?_
      refine mj_b0 40 rfl ?_
      by_cases q1 : ¬ x < 0 ∧ ¬ nI (bn b) ≤ x
      · refine mj_brf (fun z => vB_0.mp z q1) ?_
        refine mj_b0 40 rfl ?_
        refine mj_cV rfl rfl rfl rfl rfl rfl (xm_isCell hb h y) ?_
        refine mj_b0 40 rfl ?_
        by_cases q2 : ¬ y < 0 ∧ ¬ nI (bn b) ≤ y
        · refine mj_brf (fun z => vB_0.mp z q2) ?_
          refine mj_b0 40 rfl ?_
          refine mj_brf (fun z => q ⟨q1, q2, nlt0 z⟩) ?_
          refine mj_b0 40 rfl ?_
          exact mj_end rfl rfl trivial ⟨rfl, rfl⟩
        · refine mj_brt (vB_0.mpr q2) ?_
          refine mj_b0 40 rfl ?_
          exact mj_end rfl rfl trivial ⟨rfl, rfl⟩
      · refine mj_brt (vB_0.mpr q1) ?_
        refine mj_b0 40 rfl ?_
        exact mj_end rfl rfl trivial ⟨rfl, rfl⟩
/-- promise 14 -/
theorem s_around (x n : Int32) : Sim (d + 5) nX8_around nX9_around [.int x, .int n] := by
  refine Sim.board (fun b hb => ?_)
  have t0 := tb0 hb
  by_cases q : (¬ x < 0 ∧ ¬ nI (bn b) ≤ x) ∧ (¬ n < 0 ∧ ¬ nI 20 < n)
  · obtain ⟨q1, q3⟩ := q
    rcases ixb hb x with z | ⟨i, hi, rfl⟩
    · exact absurd q1 z
    refine ⟨sm (fun k => if nv ((bfs b i).1 k) = n then nI 1 else nI 0) (bn b), fun sc F S G Y M T C V A Z h hy => ?_, fun P U s g w m t c v a h => ?_⟩
    rotate_left
    · obtain ⟨y1, y2, y3, wr⟩ := w
      obtain ⟨z1, z2, z3, g2⟩ := x_maround (P := P) (U := U) (s := s) (wr := wr) (m := m) (t := t) (c := c) (v := v) (a := a) (d := d + 2) (y1 := y1) (y2 := y2) (y3 := y3) hb h hi q3
      exact ⟨(z1, z2, z3, wr), c.2, g2⟩
    · obtain ⟨y1, y2, y3, yr⟩ := Y
      obtain ⟨z1, z2, z3, g2⟩ := x_around (sc := sc) (F := F) (S := S) (yr := yr) (M := M) (T := T) (C := C) (V := V) (A := A) (Z := Z) (d := d) (y1 := y1) (y2 := y2) (y3 := y3) (x := n) hb h hi
      refine ⟨(z1, z2, z3, yr), C.2, hy, ?_⟩
      refine mj_C.of rfl rfl rfl ?_
      refine mj_b0 40 rfl ?_
      refine mj_cV rfl rfl rfl rfl rfl rfl (x_has h (nI i)) ?_
      refine mj_b0 40 rfl ?_
      refine mj_brf (fun z => vB_0.mp z (okb hb hi)) ?_
      refine mj_b0 40 rfl ?_
      refine mj_brf (q3.1) ?_
      refine mj_b0 40 rfl ?_
      refine mj_brt (show n ≤ nI 20 by
        have q4 := q3.2
        rw [Int32.lt_iff_toInt_lt] at q4
        rw [Int32.le_iff_toInt_le]
        omega) ?_
      refine mj_b0 40 rfl ?_
      refine mj_cV rfl rfl rfl rfl rfl rfl (g2) ?_
      exact mj_end rfl rfl trivial ⟨rfl, rfl⟩
  · refine ⟨BD, fun sc F S G Y M T C V A Z h hy => ⟨Y, C.2, hy, ?_⟩, fun P U s g w m t c v a h => ⟨w, c.2, ?_⟩⟩
    · refine mj_C.of rfl rfl rfl ?_
      refine mj_b0 40 rfl ?_
      refine mj_cV rfl rfl rfl rfl rfl rfl (x_has h x) ?_
      refine mj_b0 40 rfl ?_
      by_cases q1 : ¬ x < 0 ∧ ¬ nI (bn b) ≤ x
      · refine mj_brf (fun z => vB_0.mp z q1) ?_
        refine mj_b0 40 rfl ?_
        refine mj_br (fun q3 => ?_) (fun q3 => ?_)
        · refine mj_b0 40 rfl ?_
          exact mj_end rfl rfl trivial ⟨rfl, rfl⟩
        · refine mj_b0 40 rfl ?_
          refine mj_br (fun q4 => ?_) (fun q4 => ?_)
          · exact absurd ⟨q1, q3, fun z => by
              have q6 : n ≤ nI 20 := q4
              rw [Int32.le_iff_toInt_le] at q6
              rw [Int32.lt_iff_toInt_lt] at z
              omega⟩ q
          · refine mj_b0 40 rfl ?_
            exact mj_end rfl rfl trivial ⟨rfl, rfl⟩
      · refine mj_brt (vB_0.mpr q1) ?_
        refine mj_b0 40 rfl ?_
        exact mj_end rfl rfl trivial ⟨rfl, rfl⟩
    · refine mj_C.of rfl rfl rfl ?_
      refine mj_b0 40 rfl ?_
      refine mj_hq (h' := (fbP P (mdZ (nI 0, U.2) s g w m t c v a))) rfl ?_
      refine mj_cV rfl rfl rfl rfl rfl rfl (xm_isCell hb h x) ?_
      refine mj_b0 40 rfl ?_
      by_cases q1 : ¬ x < 0 ∧ ¬ nI (bn b) ≤ x
      · refine mj_brf (fun z => vB_0.mp z q1) ?_
        refine mj_b0 40 rfl ?_
        refine mj_cS rfl rfl rfl rfl (m_in32 n 0 (nI 20) (by decide) (by decide)) ?_
        refine mj_b0 40 rfl ?_
        refine mj_brf (fun z => z (vB_0.mpr (fun z2 => q ⟨q1, z2⟩))) ?_
        refine mj_b0 40 rfl ?_
        exact mj_end rfl rfl trivial ⟨rfl, rfl⟩
      · refine mj_brt (vB_0.mpr q1) ?_
        refine mj_b0 40 rfl ?_
        exact mj_end rfl rfl trivial ⟨rfl, rfl⟩
end FS
