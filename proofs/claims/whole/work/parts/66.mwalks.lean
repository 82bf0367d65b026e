/-! promise 13, side by side: the model, and both -/
def pL (f g : fL) (k : Nat) : fL := fun q => if q < k then f q else g q
theorem pL_0 (f g : fL) : pL f g 0 = g := by
  funext q
  exact if_neg (by omega)
theorem pL_s (f g : fL) (k : Nat) : vp_updL (pL f g k) k (f k) = pL f g (k + 1) := by
  funext q
  show (if q = k then f k else if q < k then f q else g q) = (if q < k + 1 then f q else g q)
  by_cases e : q = k
  · rw [if_pos e, if_pos (by omega), e]
  · rw [if_neg e]
    by_cases l : q < k
    · rw [if_pos l, if_pos (by omega)]
    · rw [if_neg l, if_neg (by omega)]
theorem pL_in {f g : fL} {k q : Nat} (h : q < k) : pL f g k q = f q := if_pos h
section MW
variable {P : fP} {U : fU} {s : fA × fA × fA} {g : fG} {m : fM} {t : fR} {c : fA × fA × fA} {v : fA × fA} {a : fA × Int32} {d : Nat}
variable {f1 f3 : fA} {f2 : fL}
theorem lm_wthen {b i : Nat} {x y z : Int32} {wl th : fL} {o6 o8 o9 : Option Value} {Q : Option Value → mj_H → Prop} (hb : b < 22) (h : Bd b g) (kk : ∀ o5, mj_R (mj_C (d + 2)) 9 false (some .int) iX9_walks (203, [some (.ref 35), some (.int x), some (.int y), some (.int z), some (.int (nI i)), o5, o6, none, o8, o9], [], fbP P (mdZ U s g (f1, f2, f3, pL th wl (bn b), th) m t c v a)) Q) : mj_R (mj_C (d + 2)) 9 false (some .int) iX9_walks (174, [some (.ref 35), some (.int x), some (.int y), some (.int z), some (.int (nI i)), some (.int (nI 0)), o6, none, o8, o9], [], fbP P (mdZ U s g (f1, f2, f3, wl, th) m t c v a)) Q := by
  have t0 := tb0 hb
  refine mj_hq (h' := fbP P (mdZ U s g (f1, f2, f3, pL th wl 0, th) m t c v a)) (by rw [pL_0]) ?_
  refine mj_iter (fun j => (174, [some (.ref 35), some (.int x), some (.int y), some (.int z), some (.int (nI i)), some (.int (nI j)), o6, none, o8, o9], [], fbP P (mdZ U s g (f1, f2, f3, pL th wl j, th) m t c v a))) (bn b) (fun j hj ih => ?_) ?_
  · have e1 : (nI j).toNatClampNeg = j := nI_clamp (by omega)
    have hi : vp_in (nI j) 400 := nI_ix (show j < 400 by omega) (by omega)
    rw [← nI_add j 1] at ih
    refine mj_b0 40 rfl ?_
    refine mj_brf (by rw [bd_cl h]; exact nI_ge hj (by omega)) ?_
    refine mj_b1 8 rfl (⟨hi, hi⟩) ?_
    refine mj_hq (h' := fbP P (mdZ U s g (f1, f2, f3, pL th wl (j + 1), th) m t c v a)) (Eq.trans (b := fbP P (mdZ U s g (f1, f2, f3, vp_updL (pL th wl j) (nI j).toNatClampNeg (th (nI j).toNatClampNeg), th) m t c v a)) rfl (by rw [e1, pL_s])) ?_
    refine mj_b0 2 rfl ?_
    exact ih
  · refine mj_b0 40 rfl ?_
    refine mj_brt (by rw [bd_cl h]; exact nI_le (by omega) (by omega)) ?_
    exact kk _
theorem lm_wnext {b i : Nat} {x y z : Int32} {wl th : fL} {W : Nat → Nat} {o6 o8 o9 : Option Value} {Q : Option Value → mj_H → Prop} (hb : b < 22) (h : Bd b g) (hl : ∀ c, c < bn b → wl c = lN (W c)) (hW : ∀ c, c < bn b → W c < MD) (kk : ∀ o5 o6 o8 o9, mj_R (mj_C (d + 2)) 9 false (some .int) iX9_walks (171, [some (.ref 35), some (.int x), some (.int y), some (.int z), some (.int (nI i)), o5, o6, none, o8, o9], [], fbP P (mdZ U s g (f1, f2, f3, wl, pL (fun c => lN (wkS b W c)) th (bn b)) m t c v a)) Q) : mj_R (mj_C (d + 2)) 9 false (some .int) iX9_walks (84, [some (.ref 35), some (.int x), some (.int y), some (.int z), some (.int (nI i)), some (.int (nI 0)), o6, none, o8, o9], [], fbP P (mdZ U s g (f1, f2, f3, wl, th) m t c v a)) Q := by
  have t0 := tb0 hb
  have e0 : MD = 1000000007 := rfl
  refine mj_hq (h' := fbP P (mdZ U s g (f1, f2, f3, wl, pL (fun c => lN (wkS b W c)) th 0) m t c v a)) (by rw [pL_0]) ?_
  refine mj_itJ (fun j (o : Option Value × Option Value × Option Value) => (84, [some (.ref 35), some (.int x), some (.int y), some (.int z), some (.int (nI i)), some (.int (nI j)), o.1, none, o.2.1, o.2.2], [], fbP P (mdZ U s g (f1, f2, f3, wl, pL (fun c => lN (wkS b W c)) th j) m t c v a))) (bn b) (fun j o hj ih => ?_) (fun o => ?_) (o6, o8, o9)
  · have t1 := tb1 hb hj
    have e1 : (nI j).toNatClampNeg = j := nI_clamp (by omega)
    have hi : vp_in (nI j) 400 := nI_ix (show j < 400 by omega) (by omega)
    refine mj_b0 40 rfl ?_
    refine mj_brf (by rw [bd_cl h]; exact nI_ge hj (by omega)) ?_
    refine mj_b0 4 rfl ?_
    refine mj_itJ (fun q (o : Option Value) => (99, [some (.ref 35), some (.int x), some (.int y), some (.int z), some (.int (nI i)), some (.int (nI j)), some (.long (lN (wsm b W j q))), none, some (.int (nI q)), o], [], fbP P (mdZ U s g (f1, f2, f3, wl, pL (fun c => lN (wkS b W c)) th j) m t c v a))) (bp b) (fun q o hq iq => ?_) (fun o => ?_) o.2.2
    · have iq := iq (some (.int (nv (tAt b j q))))
      rw [← nI_add q 1] at iq
      simp only [wsm] at iq
      have e3 : nI 10 * nI j + nI q = nI (j * 10 + q) := by rw [pk_mul, nI_add, Nat.mul_comm]
      have e4 : (nI (j * 10 + q)).toNatClampNeg = j * 10 + q := nI_clamp (by omega)
      refine mj_b0 40 rfl ?_
      refine mj_brf (by rw [bd_sd h]; exact nI_ge hq (by omega)) ?_
      refine mj_b1 8 rfl (by show vp_in (nI 10 * nI j + nI q) 4000; rw [e3]; exact nI_ix (by omega) (by omega)) ?_
      refine mj_sq (S' := (121, [some (.ref 35), some (.int x), some (.int y), some (.int z), some (.int (nI i)), some (.int (nI j)), some (.long (lN (wsm b W j q))), none, some (.int (nI q)), o], [.int (nv (tAt b j q))], fbP P (mdZ U s g (f1, f2, f3, wl, pL (fun c => lN (wkS b W c)) th j) m t c v a))) (by
        rw [← bd_at h hj hq, ← e4, ← e3] <;> rfl) ?_
      refine mj_b0 40 rfl ?_
      by_cases q2 : tAt b j q = 1023
      · refine mj_brf (by rw [q2]; exact fun y => y rfl) ?_
        refine mj_b0 6 rfl ?_
        rw [if_pos q2, ← lN_add] at iq
        exact iq
      · have hx2 : tAt b j q < bn b := ((t1.2.2.2.2.2 q hq).resolve_left q2).1
        have e2 : (nv (tAt b j q)).toNatClampNeg = tAt b j q := by rw [nv_is q2]; exact nI_clamp (by omega)
        refine mj_brt (fun y => q2 ((nv_NO (tAt_lt b j q)).mp y)) ?_
        refine mj_b1 8 rfl (by rw [nv_is q2]; exact nI_ix (show tAt b j q < 400 by omega) (by omega)) ?_
        have e9 : wl (nv (tAt b j q)).toNatClampNeg = lN (W (tAt b j q)) := by rw [e2]; exact hl _ hx2
        rw [if_neg q2, ← lN_add, ← e9] at iq
        exact iq
    · have ih := ih (some (.long (lN (wsm b W j (bp b)))), some (.int (nI (bp b))), o)
      rw [← nI_add j 1] at ih
      have e5 := wsm_63 hb hj hW
      refine mj_b0 40 rfl ?_
      refine mj_brt (by rw [bd_sd h]; exact nI_le (by omega) (by omega)) ?_
      refine mj_b1 7 rfl (⟨show ¬ (1000000007 : Int64) = 0 by decide, hi⟩) ?_
      refine mj_hq (h' := fbP P (mdZ U s g (f1, f2, f3, wl, pL (fun c => lN (wkS b W c)) th (j + 1)) m t c v a)) (Eq.trans (b := fbP P (mdZ U s g (f1, f2, f3, wl, vp_updL (pL (fun c => lN (wkS b W c)) th j) (nI j).toNatClampNeg (f_lrem (lN (wsm b W j (bp b))) 1000000007)) m t c v a)) rfl (by rw [e1, lrem_MD e5, ← pL_s]; rfl)) ?_
      refine mj_b0 2 rfl ?_
      exact ih
  · refine mj_b0 40 rfl ?_
    refine mj_brt (by rw [bd_cl h]; exact nI_le (by omega) (by omega)) ?_
    exact kk _ _ _ _
theorem x_mwalks {b x y n : Nat} {w : fW} (hb : b < 22) (h : Bd b g) (hx : x < bn b) (hy : y < bn b) (hn : n ≤ 30) : ∃ w' : fW, mj_C (d + 3) nX9_walks [.ref 35, .int (nI x), .int (nI y), .int (nI n)] (fbP P (mdZ U s g w m t c v a)) (some (.int (nI (wk b x n y)))) (fbP P (mdZ (nI 0, U.2) s g w' m t c v a)) := by
  have t0 := tb0 hb
  obtain ⟨f1, f2, f3, wl, th⟩ := w
  have kk : ∃ r h', mj_C (d + 3) nX9_walks [.ref 35, .int (nI x), .int (nI y), .int (nI n)] (fbP P (mdZ U s g (f1, f2, f3, wl, th) m t c v a)) r h' ∧ (r = some (.int (nI (wk b x n y))) ∧ ∃ w', h' = fbP P (mdZ (nI 0, U.2) s g w' m t c v a)) := by
    refine mj_C.ex rfl rfl rfl ?_
    refine mj_b0 40 rfl ?_
    refine mj_hq (h' := fbP P (mdZ (nI 0, U.2) s g (f1, f2, f3, wl, th) m t c v a)) rfl ?_
    refine mj_cV rfl rfl rfl rfl rfl rfl (xm_isCell hb h (nI x)) ?_
    refine mj_b0 40 rfl ?_
    refine mj_brf (fun z => vB_0.mp z (okb hb hx)) ?_
    refine mj_b0 40 rfl ?_
    refine mj_cV rfl rfl rfl rfl rfl rfl (xm_isCell hb h (nI y)) ?_
    refine mj_b0 40 rfl ?_
    refine mj_brf (fun z => vB_0.mp z (okb hb hy)) ?_
    refine mj_b0 40 rfl ?_
    refine mj_cS rfl rfl rfl rfl (m_in32 (nI n) 0 (nI 30) (by decide) (by decide)) ?_
    refine mj_b0 40 rfl ?_
    refine mj_brt (fun z => vB_0.mp z ⟨nI_pos (by omega), nI_nlt (by omega) (by omega)⟩) ?_
    refine mj_b0 2 rfl ?_
    refine mj_hq (h' := fbP P (mdZ (nI 0, U.2) s g (f1, f2, f3, pL (fun c => lN (wk b x 0 c)) wl 0, th) m t c v a)) (by rw [pL_0]) ?_
    refine mj_iter (fun j => (39, [some (.ref 35), some (.int (nI x)), some (.int (nI y)), some (.int (nI n)), some (.int (nI j)), none, none, none, none, none], [], fbP P (mdZ (nI 0, U.2) s g (f1, f2, f3, pL (fun c => lN (wk b x 0 c)) wl j, th) m t c v a))) (bn b) (fun j hj ih => ?_) ?_
    · have e1 : (nI j).toNatClampNeg = j := nI_clamp (by omega)
      have hi : vp_in (nI j) 400 := nI_ix (show j < 400 by omega) (by omega)
      rw [← nI_add j 1] at ih
      refine mj_b0 40 rfl ?_
      refine mj_brf (by rw [bd_cl h]; exact nI_ge hj (by omega)) ?_
      refine mj_b0 40 rfl ?_
      by_cases q : j = x
      · refine mj_brf (fun z => z (by rw [q])) ?_
        refine mj_b1 3 rfl (hi) ?_
        refine mj_hq (h' := fbP P (mdZ (nI 0, U.2) s g (f1, f2, f3, pL (fun c => lN (wk b x 0 c)) wl (j + 1), th) m t c v a)) (Eq.trans (b := fbP P (mdZ (nI 0, U.2) s g (f1, f2, f3, vp_updL (pL (fun c => lN (wk b x 0 c)) wl j) (nI j).toNatClampNeg (lN 1), th) m t c v a)) rfl (by rw [e1, ← pL_s, show wk b x 0 j = 1 from if_pos q])) ?_
        refine mj_b0 2 rfl ?_
        exact ih
      · refine mj_brt (fun z => q ((nI_eq (by omega) (by omega)).mp z)) ?_
        refine mj_b1 2 rfl (hi) ?_
        refine mj_hq (h' := fbP P (mdZ (nI 0, U.2) s g (f1, f2, f3, pL (fun c => lN (wk b x 0 c)) wl (j + 1), th) m t c v a)) (Eq.trans (b := fbP P (mdZ (nI 0, U.2) s g (f1, f2, f3, vp_updL (pL (fun c => lN (wk b x 0 c)) wl j) (nI j).toNatClampNeg (lN 0), th) m t c v a)) rfl (by rw [e1, ← pL_s, show wk b x 0 j = 0 from if_neg q])) ?_
        refine mj_b0 2 rfl ?_
        exact ih
    · refine mj_b0 40 rfl ?_
      refine mj_brt (by rw [bd_cl h]; exact nI_le (by omega) (by omega)) ?_
      refine mj_b0 2 rfl ?_
      refine mj_itI (fun j (o : (fL × fL) × Option Value × Option Value × Option Value × Option Value) => ∀ c, c < bn b → o.1.1 c = lN (wk b x j c)) (fun j (o : (fL × fL) × Option Value × Option Value × Option Value × Option Value) => (75, [some (.ref 35), some (.int (nI x)), some (.int (nI y)), some (.int (nI n)), some (.int (nI j)), o.2.1, o.2.2.1, none, o.2.2.2.1, o.2.2.2.2], [], fbP P (mdZ (nI 0, U.2) s g (f1, f2, f3, o.1.1, o.1.2) m t c v a))) n (fun j o hj hI ih => ?_) (fun o hI => ?_) ((pL (fun c => lN (wk b x 0 c)) wl (bn b), th), none, none, none, none) (fun c hc => pL_in (f := fun c => lN (wk b x 0 c)) hc)
      · refine mj_b0 40 rfl ?_
        refine mj_brf (nI_ge hj (by omega)) ?_
        refine mj_b0 2 rfl ?_
        refine lm_wnext hb h hI (fun c _ => wk_lt b x j c) (fun o5 o6 o8 o9 => ?_)
        refine mj_b0 2 rfl ?_
        refine lm_wthen hb h (fun o5 => ?_)
        have ih := ih ((pL (pL (fun c => lN (wkS b (wk b x j) c)) o.1.2 (bn b)) o.1.1 (bn b), pL (fun c => lN (wkS b (wk b x j) c)) o.1.2 (bn b)), o5, o6, o8, o9) (fun c hc => by
          show pL _ _ _ c = _
          rw [pL_in hc, pL_in hc]
          rfl)
        rw [← nI_add j 1] at ih
        refine mj_b0 2 rfl ?_
        exact ih
      · have e1 : (nI y).toNatClampNeg = y := nI_clamp (by omega)
        refine mj_b0 40 rfl ?_
        refine mj_brt (nI_le (by omega) (by omega)) ?_
        refine mj_b1 40 rfl (nI_ix (show y < 400 by omega) (by omega)) ?_
        exact mj_end rfl rfl trivial ⟨by rw [e1, show (f1, f2, f3, o.1.1, o.1.2).2.2.2.1 y = lN (wk b x n y) from hI y hy, lN_i], _, rfl⟩
  obtain ⟨r, h', k1, rfl, w', rfl⟩ := kk
  exact ⟨w', k1⟩
end MW
section MWS
variable {d : Nat}
/-- promise 13 -/
theorem s_walks (x y n : Int32) : Sim (d + 4) nX8_walks nX9_walks [.int x, .int y, .int n] := by
  refine Sim.board (fun b hb => ?_)
  have t0 := tb0 hb
  by_cases q : (¬ x < 0 ∧ ¬ nI (bn b) ≤ x) ∧ (¬ y < 0 ∧ ¬ nI (bn b) ≤ y) ∧ (¬ n < 0 ∧ ¬ nI 30 < n)
  · obtain ⟨q1, q2, q3⟩ := q
    rcases ixb hb x with z | ⟨i, hi, rfl⟩
    · exact absurd q1 z
    rcases ixb hb y with z | ⟨j, hj, rfl⟩
    · exact absurd q2 z
    rcases ixn n (n := 31) (by omega) with ⟨-, z⟩ | ⟨k, hk, rfl⟩
    · exact absurd q3 (nin_no (by omega) z)
    refine ⟨nI (wk b i k j), fun sc F S G Y M T C V A Z h hy => ?_, fun P U s g w m t c v a h => ?_⟩
    · obtain ⟨Y', g1, g2⟩ := x_countWalks (sc := sc) (F := F) (S := S) (M := M) (T := T) (C := C) (V := V) (A := A) (Z := Z) (d := d) (n := k) hb h hi hj (by omega) hy
      refine ⟨Y', C.2, g1, ?_⟩
      refine mj_C.of rfl rfl rfl ?_
      refine mj_b0 40 rfl ?_
      refine mj_cV rfl rfl rfl rfl rfl rfl (x_has h (nI i)) ?_
      refine mj_b0 40 rfl ?_
      refine mj_brf (fun z => vB_0.mp z (okb hb hi)) ?_
      refine mj_b0 40 rfl ?_
      refine mj_cV rfl rfl rfl rfl rfl rfl (x_has h (nI j)) ?_
      refine mj_b0 40 rfl ?_
      refine mj_brf (fun z => vB_0.mp z (okb hb hj)) ?_
      refine mj_b0 40 rfl ?_
      refine mj_brf (q3.1) ?_
      refine mj_b0 40 rfl ?_
      refine mj_brt (show nI k ≤ nI 30 from nI_le (by omega) (by omega)) ?_
      refine mj_b0 40 rfl ?_
      refine mj_cV rfl rfl rfl rfl rfl rfl (g2) ?_
      exact mj_end rfl rfl trivial ⟨rfl, rfl⟩
    · obtain ⟨w', g1⟩ := x_mwalks (P := P) (U := U) (s := s) (w := w) (m := m) (t := t) (c := c) (v := v) (a := a) (d := d + 1) (n := k) hb h hi hj (by omega)
      exact ⟨w', c.2, g1⟩
  · refine ⟨BD, fun sc F S G Y M T C V A Z h hy => ⟨Y, C.2, hy, ?_⟩, fun P U s g w m t c v a h => ⟨w, c.2, ?_⟩⟩
    · refine mj_C.of rfl rfl rfl ?_
      refine mj_b0 40 rfl ?_
      refine mj_cV rfl rfl rfl rfl rfl rfl (x_has h x) ?_
      refine mj_b0 40 rfl ?_
      by_cases q1 : ¬ x < 0 ∧ ¬ nI (bn b) ≤ x
      · refine mj_brf (fun z => vB_0.mp z q1) ?_
        refine mj_b0 40 rfl ?_
        refine mj_cV rfl rfl rfl rfl rfl rfl (x_has h y) ?_
        refine mj_b0 40 rfl ?_
        by_cases q2 : ¬ y < 0 ∧ ¬ nI (bn b) ≤ y
        · refine mj_brf (fun z => vB_0.mp z q2) ?_
          refine mj_b0 40 rfl ?_
          refine mj_br (fun q3 => ?_) (fun q3 => ?_)
          · refine mj_b0 40 rfl ?_
            exact mj_end rfl rfl trivial ⟨rfl, rfl⟩
          · refine mj_b0 40 rfl ?_
            refine mj_br (fun q4 => ?_) (fun q4 => ?_)
            · exact absurd ⟨q1, q2, q3, fun z => by
                have q6 : n ≤ nI 30 := q4
                rw [Int32.le_iff_toInt_le] at q6
                rw [Int32.lt_iff_toInt_lt] at z
                omega⟩ q
            · refine mj_b0 40 rfl ?_
              exact mj_end rfl rfl trivial ⟨rfl, rfl⟩
        · refine mj_brt (vB_0.mpr q2) ?_
          refine mj_b0 40 rfl ?_
          exact mj_end rfl rfl trivial ⟨rfl, rfl⟩
      · refine mj_brt (vB_0.mpr q1) ?_
        refine mj_b0 40 rfl ?_
        exact mj_end rfl rfl trivial ⟨rfl, rfl⟩
    · refine mj_C.of rfl rfl rfl ?_
      refine mj_b0 40 rfl ?_
      refine mj_hq (h' := (fbP P (mdZ (nI 0, U.2) s g w m t c v a))) rfl ?_
      refine mj_cV rfl rfl rfl rfl rfl rfl (xm_isCell hb h x) ?_
      refine mj_b0 40 rfl ?_
      by_cases q1 : ¬ x < 0 ∧ ¬ nI (bn b) ≤ x
      · refine mj_brf (fun z => vB_0.mp z q1) ?_
        refine mj_b0 40 rfl ?_
        refine mj_cV rfl rfl rfl rfl rfl rfl (xm_isCell hb h y) ?_
        refine mj_b0 40 rfl ?_
        by_cases q2 : ¬ y < 0 ∧ ¬ nI (bn b) ≤ y
        · refine mj_brf (fun z => vB_0.mp z q2) ?_
          refine mj_b0 40 rfl ?_
          refine mj_cS rfl rfl rfl rfl (m_in32 n 0 (nI 30) (by decide) (by decide)) ?_
          refine mj_b0 40 rfl ?_
          refine mj_brf (fun z => z (vB_0.mpr (fun z2 => q ⟨q1, q2, z2⟩))) ?_
          refine mj_b0 40 rfl ?_
          exact mj_end rfl rfl trivial ⟨rfl, rfl⟩
        · refine mj_brt (vB_0.mpr q2) ?_
          refine mj_b0 40 rfl ?_
          exact mj_end rfl rfl trivial ⟨rfl, rfl⟩
      · refine mj_brt (vB_0.mpr q1) ?_
        refine mj_b0 40 rfl ?_
        exact mj_end rfl rfl trivial ⟨rfl, rfl⟩
end MWS
