/-! promises 11, 12 and 14: the model's spread -/
theorem bRm.wys {b c e : Nat} {t : bsT} {y1 : fA} {y2 : fL} {y3 : fA} (h : bRm b t y1 y2 y3) (q : t.1 e = t.1 c + 1) : bRm b (bW c e t) y1 (vp_updL y2 e (lN ((t.2.1 e + t.2.1 c) % MD))) y3 := by
  unfold bW
  rw [if_pos q]
  refine ⟨fun x hx => ⟨(h.1 x hx).1, ?_⟩, h.2⟩
  show vp_updL y2 e _ x = lN (uN t.2.1 e _ x)
  by_cases z : x = e
  · rw [z, pk_uLs, uN_s]
  · rw [pk_uLn z, uN_n z]
    exact (h.1 x hx).2
theorem bRm.reach {b c e : Nat} {t : bsT} {y1 : fA} {y2 : fL} {y3 : fA} (h : bRm b t y1 y2 y3) (hc : c < bn b) (h1 : t.1 c < 400) (q : t.1 e = 1023) : bRm b (bV c e t) (upd y1 e (nv (t.1 c) + nI 1)) y2 (upd y3 t.2.2.2 (nI e)) := by
  unfold bV
  rw [if_pos q]
  refine ⟨fun x hx => ⟨?_, (h.1 x hx).2⟩, fun i hi => ?_⟩
  · show upd y1 e _ x = nv (uN t.1 e _ x)
    by_cases z : x = e
    · rw [z, pk_us, uN_s, nv_1 (by omega)]
    · rw [pk_un z, uN_n z]
      exact (h.1 x hx).1
  · show upd y3 _ _ i = nI (uN _ _ _ i)
    by_cases z : i = t.2.2.2
    · rw [z, pk_us, uN_s]
    · rw [pk_un z, uN_n z]
      have hi' : i < t.2.2.2 + 1 := hi
      exact h.2 i (by omega)
section BM
variable {P : fP} {U : fU} {s : fA × fA × fA} {g : fG} {wr : fL × fL} {m : fM} {t : fR} {c : fA × fA × fA} {v : fA × fA} {a : fA × Int32} {d : Nat}
theorem lm_ways {b x e i k n : Nat} {q : bsT} {y1 : fA} {y2 : fL} {y3 : fA} {Q : Option Value → mj_H → Prop} (hb : b < 22) (hi : bInv b q) (hr : bRm b q y1 y2 y3) (hc : x < bn b) (he : e < bn b) (h1 : q.1 x < 400) (h2 : q.1 e < 400) (kk : ∀ y1 y2 y3, bRm b (bW x e q) y1 y2 y3 → mj_R (mj_C d) 9 false none iX9_spread (72, [some (.ref 35), some (.int (nI n)), some (.int (nI q.2.2.2)), some (.int (nI k)), some (.int (nI x)), some (.int (nI (i + 1))), some (.int (nI e))], [], fbP P (mdZ U s g (y1, y2, y3, wr) m t c v a)) Q) : mj_R (mj_C d) 9 false none iX9_spread (142, [some (.ref 35), some (.int (nI n)), some (.int (nI q.2.2.2)), some (.int (nI k)), some (.int (nI x)), some (.int (nI i)), some (.int (nI e))], [], fbP P (mdZ U s g (y1, y2, y3, wr) m t c v a)) Q := by
  have t0 := tb0 hb
  have e0 : MD = 1000000007 := rfl
  have e1 : (nI x).toNatClampNeg = x := nI_clamp (by omega)
  have e2 : (nI e).toNatClampNeg = e := nI_clamp (by omega)
  have ic : vp_in (nI x) 400 := nI_ix (show x < 400 by omega) (by omega)
  have ie : vp_in (nI e) 400 := nI_ix (show e < 400 by omega) (by omega)
  have w1 := hi.2.2.2.1 x hc
  have w2 := hi.2.2.2.1 e he
  have r1 : y1 e = nv (q.1 e) := (hr.1 e he).1
  have r2 : y1 x = nv (q.1 x) := (hr.1 x hc).1
  have r3 : y2 e = lN (q.2.1 e) := (hr.1 e he).2
  have r4 : y2 x = lN (q.2.1 x) := (hr.1 x hc).2
  refine mj_b1 40 rfl (⟨ie, ic⟩) ?_
  rw [e1, e2, show (y1, y2, y3, wr).1 e = nv (q.1 e) from r1, show (y1, y2, y3, wr).1 x = nv (q.1 x) from r2, show nv (q.1 x) + mj_kc 1 = nv (q.1 x + 1) from nv_1 (by omega)]
  by_cases z : q.1 e = q.1 x + 1
  · refine mj_brf (fun y => y (by rw [z])) ?_
    refine mj_b1 15 rfl (⟨⟨⟨ie, ic⟩, show ¬ (1000000007 : Int64) = 0 by decide⟩, ie⟩) ?_
    refine mj_hq (h' := fbP P (mdZ U s g (y1, vp_updL y2 e (lN ((q.2.1 e + q.2.1 x) % MD)), y3, wr) m t c v a)) (Eq.trans (b := fbP P (mdZ U s g (y1, vp_updL y2 (nI e).toNatClampNeg (f_lrem (y2 (nI e).toNatClampNeg + y2 (nI x).toNatClampNeg) 1000000007), y3, wr) m t c v a)) rfl (by
      rw [e1, e2, r3, r4, lN_add, lrem_MD (by omega)])) ?_
    have k2 := kk y1 _ y3 (hr.wys z)
    rw [← nI_add i 1] at k2
    refine mj_b0 2 rfl ?_
    exact k2
  · refine mj_brt (fun y => z ((nv_eq (by omega) (by omega)).mp y)) ?_
    have k2 := kk y1 y2 y3 (by unfold bW; rw [if_neg z]; exact hr)
    rw [← nI_add i 1] at k2
    refine mj_b0 2 rfl ?_
    exact k2
/-- all sides of a cell -/
theorem lm_sides {b x k n : Nat} {q : bsT} {y1 : fA} {y2 : fL} {y3 : fA} {o : Option Value} {Q : Option Value → mj_H → Prop} (hb : b < 22) (h : Bd b g) (hi : bInv b q) (hr : bRm b q y1 y2 y3) (hc : x < bn b) (h1 : q.1 x ≠ 1023) (kk : ∀ y1 y2 y3 o, bRm b (bD b x q (bp b)) y1 y2 y3 → mj_R (mj_C d) 9 false none iX9_spread (193, [some (.ref 35), some (.int (nI n)), some (.int (nI (bD b x q (bp b)).2.2.2)), some (.int (nI k)), some (.int (nI x)), some (.int (nI (bp b))), o], [], fbP P (mdZ U s g (y1, y2, y3, wr) m t c v a)) Q) : mj_R (mj_C d) 9 false none iX9_spread (72, [some (.ref 35), some (.int (nI n)), some (.int (nI q.2.2.2)), some (.int (nI k)), some (.int (nI x)), some (.int (nI 0)), o], [], fbP P (mdZ U s g (y1, y2, y3, wr) m t c v a)) Q := by
  have t0 := tb0 hb
  have t1 := tb1 hb hc
  refine mj_itI (fun i (o : (fA × fL × fA) × Option Value) => bRm b (bD b x q i) o.1.1 o.1.2.1 o.1.2.2) (fun i (o : (fA × fL × fA) × Option Value) => (72, [some (.ref 35), some (.int (nI n)), some (.int (nI (bD b x q i).2.2.2)), some (.int (nI k)), some (.int (nI x)), some (.int (nI i)), o.2], [], fbP P (mdZ U s g (o.1.1, o.1.2.1, o.1.2.2, wr) m t c v a))) (bp b) (fun i o hs hI ih => ?_) (fun o hI => ?_) ((y1, y2, y3), o) hr
  · obtain ⟨⟨y1, y2, y3⟩, o⟩ := o
    obtain ⟨i1, i2⟩ := hi.D hb hc h1 i (by omega)
    have e3 : nI 10 * nI x + nI i = nI (x * 10 + i) := by rw [pk_mul, nI_add, Nat.mul_comm]
    have e4 : (nI (x * 10 + i)).toNatClampNeg = x * 10 + i := nI_clamp (by omega)
    refine mj_b0 40 rfl ?_
    refine mj_brf (by rw [bd_sd h]; exact nI_ge hs (by omega)) ?_
    refine mj_b1 8 rfl (by show vp_in (nI 10 * nI x + nI i) 4000; rw [e3]; exact nI_ix (by omega) (by omega)) ?_
    refine mj_sq (S' := (94, [some (.ref 35), some (.int (nI n)), some (.int (nI (bD b x q i).2.2.2)), some (.int (nI k)), some (.int (nI x)), some (.int (nI i)), o], [.int (nv (tAt b x i))], fbP P (mdZ U s g (y1, y2, y3, wr) m t c v a))) (by
      rw [← bd_at h hc hs, ← e4, ← e3] <;> rfl) ?_
    refine mj_b0 40 rfl ?_
    by_cases z : tAt b x i = 1023
    · have ih := ih ((y1, y2, y3), some (.int (nv (tAt b x i)))) (by
        show bRm b (bS b x i (bD b x q i)) y1 y2 y3
        unfold bS
        rw [if_pos z]
        exact hI)
      rw [← nI_add i 1] at ih
      refine mj_brt (by rw [z]; rfl) ?_
      refine mj_b0 2 rfl ?_
      rw [show (bD b x q (i + 1)) = bD b x q i from if_pos z] at ih
      exact ih
    · have hx2 : tAt b x i < bn b := ((t1.2.2.2.2.2 i hs).resolve_left z).1
      have e2 : (nI (tAt b x i)).toNatClampNeg = tAt b x i := nI_clamp (by omega)
      have e1 : (nI x).toNatClampNeg = x := nI_clamp (by omega)
      have ic : vp_in (nI x) 400 := nI_ix (show x < 400 by omega) (by omega)
      have ie : vp_in (nI (tAt b x i)) 400 := nI_ix (show tAt b x i < 400 by omega) (by omega)
      have hc4 : (bD b x q i).1 x < 400 := (i1.d hb hc).resolve_left (by rw [i2]; exact h1)
      have hI' : bRm b (bD b x q i) y1 y2 y3 := hI
      have r1 : y1 (tAt b x i) = nv ((bD b x q i).1 (tAt b x i)) := (hI'.1 _ hx2).1
      have r2 : y1 x = nv ((bD b x q i).1 x) := (hI'.1 _ hc).1
      obtain ⟨r, rr1, rr2⟩ := tb13 hb hc hs z
      obtain ⟨v1, v2, v3⟩ := i1.V hb hc (by rw [i2]; exact h1) hx2 rr1 rr2
      have hd4 : (bV x (tAt b x i) (bD b x q i)).1 (tAt b x i) < 400 := (v1.d hb hx2).resolve_left v3
      have fin : ∀ y1 y2 y3, bRm b (bV x (tAt b x i) (bD b x q i)) y1 y2 y3 → mj_R (mj_C d) 9 false none iX9_spread (142, [some (.ref 35), some (.int (nI n)), some (.int (nI (bV x (tAt b x i) (bD b x q i)).2.2.2)), some (.int (nI k)), some (.int (nI x)), some (.int (nI i)), some (.int (nI (tAt b x i)))], [], fbP P (mdZ U s g (y1, y2, y3, wr) m t c v a)) Q := by
        intro y1 y2 y3 hy
        refine lm_ways hb v1 hy hc hx2 (by rw [v2]; exact hc4) hd4 (fun z1 z2 z3 hz => ?_)
        have e5 : bD b x q (i + 1) = bW x (tAt b x i) (bV x (tAt b x i) (bD b x q i)) := if_neg z
        have ih := ih ((z1, z2, z3), some (.int (nI (tAt b x i)))) (by rw [e5]; exact hz)
        rw [e5, bW_e] at ih
        exact ih
      refine mj_brf (fun y => z ((nv_NO (tAt_lt b x i)).mp y)) ?_
      rw [nv_is z]
      refine mj_b1 40 rfl (ie) ?_
      rw [e2, show (y1, y2, y3, wr).1 (tAt b x i) = nv ((bD b x q i).1 (tAt b x i)) from r1]
      by_cases q2 : (bD b x q i).1 (tAt b x i) = 1023
      · have e6 := i1.lt hx2 q2
        have e7 : (nI (bD b x q i).2.2.2).toNatClampNeg = (bD b x q i).2.2.2 := nI_clamp (by omega)
        have hv := hI'.reach hc hc4 q2
        have e8 : (bV x (tAt b x i) (bD b x q i)).2.2.2 = (bD b x q i).2.2.2 + 1 := by
          unfold bV
          rw [if_pos q2]
        have f2 := fin _ _ _ hv
        rw [e8, ← nI_add _ 1] at f2
        refine mj_brf (by rw [q2]; exact fun z => z rfl) ?_
        refine mj_b1 16 rfl (⟨⟨ic, ie⟩, nI_ix (show (bD b x q i).2.2.2 < 400 by omega) (by omega)⟩) ?_
        refine mj_hq (h' := fbP P (mdZ U s g (upd y1 (tAt b x i) (nv ((bD b x q i).1 x) + nI 1), y2, upd y3 (bD b x q i).2.2.2 (nI (tAt b x i)), wr) m t c v a)) (Eq.trans (b := fbP P (mdZ U s g (upd y1 (nI (tAt b x i)).toNatClampNeg (y1 (nI x).toNatClampNeg + nI 1), y2, upd y3 (nI (bD b x q i).2.2.2).toNatClampNeg (nI (tAt b x i)), wr) m t c v a)) rfl (by rw [e1, e2, e7, r2])) ?_
        exact f2
      · have e8 : bV x (tAt b x i) (bD b x q i) = bD b x q i := if_neg q2
        have f2 := fin y1 y2 y3 (by rw [e8]; exact hI')
        rw [e8] at f2
        refine mj_brt (fun y => q2 ((nv_NO (by have := i1.d hb hx2; omega)).mp y)) ?_
        exact f2
  · refine mj_b0 40 rfl ?_
    refine mj_brt (by rw [bd_sd h]; exact nI_le (by omega) (by omega)) ?_
    exact kk _ _ _ _ hI
theorem lm_bfs {b n : Nat} (hb : b < 22) (h : Bd b g) : ∀ (j k : Nat) (q : bsT) (y1 : fA) (y2 : fL) (y3 : fA) (o4 o5 o6 : Option Value), j + k = bn b → bInv b q → bRm b q y1 y2 y3 → mj_R (mj_C d) 9 false none iX9_spread (56, [some (.ref 35), some (.int (nI n)), some (.int (nI q.2.2.2)), some (.int (nI k)), o4, o5, o6], [], fbP P (mdZ U s g (y1, y2, y3, wr) m t c v a)) (fun r h' => r = none ∧ ∃ z1 z2 z3, bRm b (bF b j k q) z1 z2 z3 ∧ h' = fbP P (mdZ U s g (z1, z2, z3, wr) m t c v a)) := by
  have t0 := tb0 hb
  intro j
  induction j with
  | zero =>
    intro k q y1 y2 y3 o4 o5 o6 hk hi hr
    have := hi.e
    refine mj_b0 40 rfl ?_
    refine mj_brt (nI_le (by omega) (by omega)) ?_
    exact mj_end rfl rfl trivial ⟨rfl, y1, y2, y3, hr, rfl⟩
  | succ j ih =>
    intro k q y1 y2 y3 o4 o5 o6 hk hi hr
    have he := hi.e
    refine mj_b0 40 rfl ?_
    by_cases z : k < q.2.2.2
    · have q2 := hi.1 k z
      have e1 : (nI k).toNatClampNeg = k := nI_clamp (by omega)
      refine mj_brf (nI_ge z (by omega)) ?_
      refine mj_b1 4 rfl (nI_ix (show k < 400 by omega) (by omega)) ?_
      rw [e1, show (y1, y2, y3, wr).2.2.1 k = nI (q.2.2.1 k) from hr.2 k z]
      refine mj_b0 3 rfl ?_
      simp only [bF, if_pos z]
      refine lm_sides hb h hi hr q2.1 q2.2 (fun y1 y2 y3 o hy => ?_)
      have ih := ih (k + 1) _ y1 y2 y3 (some (.int (nI (q.2.2.1 k)))) (some (.int (nI (bp b)))) o (by omega) (hi.D hb q2.1 q2.2 (bp b) (Nat.le_refl _)).1 hy
      rw [← nI_add k 1] at ih
      refine mj_b0 2 rfl ?_
      exact ih
    · refine mj_brt (nI_le (by omega) (by omega)) ?_
      simp only [bF, if_neg z]
      exact mj_end rfl rfl trivial ⟨rfl, y1, y2, y3, hr, rfl⟩
theorem x_spread {b x : Nat} {y1 : fA} {y2 : fL} {y3 : fA} (hb : b < 22) (h : Bd b g) (hx : x < bn b) : ∃ z1 z2 z3, bRm b (bF b (bn b) 0 (bI0 x)) z1 z2 z3 ∧ mj_C (d + 1) nX9_spread [.ref 35, .int (nI x)] (fbP P (mdZ U s g (y1, y2, y3, wr) m t c v a)) none (fbP P (mdZ U s g (z1, z2, z3, wr) m t c v a)) := by
  have t0 := tb0 hb
  have e1 : (nI x).toNatClampNeg = x := nI_clamp (by omega)
  have ia : vp_in (nI x) 400 := nI_ix (show x < 400 by omega) (by omega)
  have kk : ∃ r h', mj_C (d + 1) nX9_spread [.ref 35, .int (nI x)] (fbP P (mdZ U s g (y1, y2, y3, wr) m t c v a)) r h' ∧ (r = none ∧ ∃ z1 z2 z3, bRm b (bF b (bn b) 0 (bI0 x)) z1 z2 z3 ∧ h' = fbP P (mdZ U s g (z1, z2, z3, wr) m t c v a)) := by
    refine mj_C.ex rfl rfl rfl ?_
    refine mj_b0 2 rfl ?_
    refine mj_hq (h' := fbP P (mdZ U s g (pf (fun _ => NO) y1 0, pL (fun _ => lN 0) y2 0, y3, wr) m t c v a)) (by rw [pf_0, pL_0]) ?_
    refine mj_iter (fun j => (2, [some (.ref 35), some (.int (nI x)), some (.int (nI j)), none, none, none, none], [], fbP P (mdZ U s g (pf (fun _ => NO) y1 j, pL (fun _ => lN 0) y2 j, y3, wr) m t c v a))) (bn b) (fun j hj ih => ?_) ?_
    · have e2 : (nI j).toNatClampNeg = j := nI_clamp (by omega)
      have ij : vp_in (nI j) 400 := nI_ix (show j < 400 by omega) (by omega)
      rw [← nI_add j 1] at ih
      refine mj_b0 40 rfl ?_
      refine mj_brf (by rw [bd_cl h]; exact nI_ge hj (by omega)) ?_
      refine mj_b1 10 rfl (⟨ij, ij⟩) ?_
      refine mj_hq (h' := fbP P (mdZ U s g (pf (fun _ => NO) y1 (j + 1), pL (fun _ => lN 0) y2 (j + 1), y3, wr) m t c v a)) (Eq.trans (b := fbP P (mdZ U s g (upd (pf (fun _ => NO) y1 j) (nI j).toNatClampNeg NO, vp_updL (pL (fun _ => lN 0) y2 j) (nI j).toNatClampNeg (lN 0), y3, wr) m t c v a)) rfl (by rw [e2, ← pf_s, ← pL_s])) ?_
      refine mj_b0 2 rfl ?_
      exact ih
    · refine mj_b0 40 rfl ?_
      refine mj_brt (by rw [bd_cl h]; exact nI_le (by omega) (by omega)) ?_
      refine mj_b1 19 rfl (⟨⟨ia, ia⟩, show vp_in (nI 0) 400 from nI_ix (by omega) (by omega)⟩) ?_
      refine mj_hq (h' := fbP P (mdZ U s g (upd (pf (fun _ => NO) y1 (bn b)) x (nI 0), vp_updL (pL (fun _ => lN 0) y2 (bn b)) x (lN 1), upd y3 0 (nI x), wr) m t c v a)) (Eq.trans (b := fbP P (mdZ U s g (upd (pf (fun _ => NO) y1 (bn b)) (nI x).toNatClampNeg (nI 0), vp_updL (pL (fun _ => lN 0) y2 (bn b)) (nI x).toNatClampNeg (lN 1), upd y3 0 (nI x), wr) m t c v a)) rfl (by rw [e1])) ?_
      refine lm_bfs hb h (bn b) 0 (bI0 x) _ _ _ _ _ _ (by omega) (bInv.I hb hx) ⟨fun j hj => ?_, fun i hi => ?_⟩
      · show upd (pf (fun _ => NO) y1 (bn b)) x (nI 0) j = nv (if j = x then 0 else 1023) ∧ vp_updL (pL (fun _ => lN 0) y2 (bn b)) x (lN 1) j = lN (if j = x then 1 else 0)
        by_cases e : j = x
        · rw [e, pk_us, pk_uLs, if_pos rfl, if_pos rfl]
          exact ⟨rfl, rfl⟩
        · rw [pk_un e, pk_uLn e, if_neg e, if_neg e, pf_in hj, pL_in hj]
          exact ⟨rfl, rfl⟩
      · show upd y3 0 (nI x) i = nI x
        have hi' : i < 1 := hi
        rw [show i = 0 by omega, pk_us]
  obtain ⟨r, h', k1, rfl, z1, z2, z3, g1, rfl⟩ := kk
  exact ⟨z1, z2, z3, g1, k1⟩
end BM
