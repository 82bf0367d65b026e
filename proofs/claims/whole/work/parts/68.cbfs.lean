/-! promises 11, 12 and 14: the class's measure -/
section BC
variable {sc : mj_E} {F : Int32 × Int32} {S : fA × fA × fA} {G : fG} {yr : fA × fA × Nat × Nat} {M : fM} {T : fT} {C : fC} {V : fV} {A : fA × Int32} {Z : mj_H} {d : Nat}
theorem bRc.wys {b c e : Nat} {t : bsT} {y1 y2 y3 : fA} (h : bRc b t y1 y2 y3) (q : t.1 e = t.1 c + 1) : bRc b (bW c e t) y1 (upd y2 e (nI ((t.2.1 e + t.2.1 c) % MD))) y3 := by
  unfold bW
  rw [if_pos q]
  refine ⟨fun x hx => ⟨(h.1 x hx).1, ?_⟩, h.2⟩
  show upd y2 e _ x = nI (uN t.2.1 e _ x)
  by_cases z : x = e
  · rw [z, pk_us, uN_s]
  · rw [pk_un z, uN_n z]
    exact (h.1 x hx).2
theorem bRc.reach {b c e : Nat} {t : bsT} {y1 y2 y3 : fA} (h : bRc b t y1 y2 y3) (hc : c < bn b) (h1 : t.1 c < 400) (q : t.1 e = 1023) : bRc b (bV c e t) (upd y1 e (nv (t.1 c) + nI 1)) y2 (upd y3 t.2.2.2 (nI e)) := by
  unfold bV
  rw [if_pos q]
  refine ⟨fun x hx => ⟨?_, (h.1 x hx).2⟩, fun i hi => ?_⟩
  · show upd y1 e _ x = nv (uN t.1 e _ x)
    by_cases z : x = e
    · rw [z, pk_us, uN_s, nv_1 (by omega)]
    · rw [pk_un z, uN_n z]
      exact (h.1 x hx).1
  · show upd y3 _ _ i = nI (uN _ _ _ i)
    by_cases z : i = t.2.2.2
    · rw [z, pk_us, uN_s]
    · rw [pk_un z, uN_n z]
      have hi' : i < t.2.2.2 + 1 := hi
      exact h.2 i (by omega)
/-- behind a cell's first reaching: the ways -/
theorem lc_ways {b c e s n : Nat} {t : bsT} {y1 y2 y3 : fA} {Q : Option Value → mj_H → Prop} (hb : b < 22) (hi : bInv b t) (hr : bRc b t y1 y2 y3) (hc : c < bn b) (he : e < bn b) (h1 : t.1 c < 400) (h2 : t.1 e < 400) (kk : ∀ y1 y2 y3, bRc b (bW c e t) y1 y2 y3 → mj_R (mj_C (d + 1)) 7 false (some .int) iX7_reachFrom (13, [some (.ref 14), some (.int (nI c)), some (.int (nI n)), some (.int (nI t.2.2.2)), some (.int (nI (s + 1))), some (.int (nI e))], [], fbH sc F S G (y1, y2, y3, yr) M T C V A Z) Q) : mj_R (mj_C (d + 1)) 7 false (some .int) iX7_reachFrom (86, [some (.ref 14), some (.int (nI c)), some (.int (nI n)), some (.int (nI t.2.2.2)), some (.int (nI s)), some (.int (nI e))], [], fbH sc F S G (y1, y2, y3, yr) M T C V A Z) Q := by
  have t0 := tb0 hb
  have e0 : MD = 1000000007 := rfl
  have e1 : (nI c).toNatClampNeg = c := nI_clamp (by omega)
  have e2 : (nI e).toNatClampNeg = e := nI_clamp (by omega)
  have ic : vp_in (nI c) 400 := nI_ix (show c < 400 by omega) (by omega)
  have ie : vp_in (nI e) 400 := nI_ix (show e < 400 by omega) (by omega)
  have w1 := hi.2.2.2.1 c hc
  have w2 := hi.2.2.2.1 e he
  have r1 : y1 e = nv (t.1 e) := (hr.1 e he).1
  have r2 : y1 c = nv (t.1 c) := (hr.1 c hc).1
  have r3 : y2 e = nI (t.2.1 e) := (hr.1 e he).2
  have r4 : y2 c = nI (t.2.1 c) := (hr.1 c hc).2
  refine mj_b1 40 rfl (⟨ie, ic⟩) ?_
  rw [e1, e2, show (y1, y2, y3, yr).1 e = nv (t.1 e) from r1, show (y1, y2, y3, yr).1 c = nv (t.1 c) from r2, show nv (t.1 c) + mj_kc 1 = nv (t.1 c + 1) from nv_1 (by omega)]
  by_cases q : t.1 e = t.1 c + 1
  · refine mj_brf (fun z => z (by rw [q])) ?_
    refine mj_b1 18 rfl (⟨⟨⟨ie, ic⟩, show ¬ (1000000007 : Int64) = 0 by decide⟩, ie⟩) ?_
    refine mj_hq (h' := fbH sc F S G (y1, upd y2 e (nI ((t.2.1 e + t.2.1 c) % MD)), y3, yr) M T C V A Z) (Eq.trans (b := fbH sc F S G (y1, upd y2 (nI e).toNatClampNeg (f_lrem ((y2 (nI e).toNatClampNeg).toInt64 + (y2 (nI c).toNatClampNeg).toInt64) 1000000007).toInt32, y3, yr) M T C V A Z) rfl (by
      rw [e1, e2, r3, r4, nI_l (show t.2.1 e < 2 ^ 31 by omega), nI_l (show t.2.1 c < 2 ^ 31 by omega), lN_add, lrem_MD (by omega), lN_i])) ?_
    have k2 := kk y1 _ y3 (hr.wys q)
    rw [← nI_add s 1] at k2
    refine mj_b0 2 rfl ?_
    exact k2
  · refine mj_brt (fun z => q ((nv_eq (by omega) (by omega)).mp z)) ?_
    have k2 := kk y1 y2 y3 (by unfold bW; rw [if_neg q]; exact hr)
    rw [← nI_add s 1] at k2
    refine mj_b0 2 rfl ?_
    exact k2
theorem bW_e (c e : Nat) (t : bsT) : (bW c e t).2.2.2 = t.2.2.2 := by
  unfold bW
  split <;> rfl
theorem x_reachFrom {b c : Nat} {t : bsT} {y1 y2 y3 : fA} (hb : b < 22) (h : Bd b G) (hi : bInv b t) (hr : bRc b t y1 y2 y3) (hc : c < bn b) (h1 : t.1 c ≠ 1023) : ∃ z1 z2 z3, bRc b (bD b c t (bp b)) z1 z2 z3 ∧ mj_C (d + 2) nX7_reachFrom [.ref 14, .int (nI c), .int (nI t.2.2.2)] (fbH sc F S G (y1, y2, y3, yr) M T C V A Z) (some (.int (nI (bD b c t (bp b)).2.2.2))) (fbH sc F S G (z1, z2, z3, yr) M T C V A Z) := by
  have t0 := tb0 hb
  have ts := st_lt hb hc
  have e1 : (nI c).toNatClampNeg = c := nI_clamp (by omega)
  have e2 : nI c + mj_kc 1 = nI (c + 1) := nI_add c 1
  have e3 : (nI (c + 1)).toNatClampNeg = c + 1 := nI_clamp (by omega)
  have i1 : vp_in (nI c) 401 := nI_ix (show c < 401 by omega) (by omega)
  have i2 : vp_in (nI c + mj_kc 1) 401 := by rw [e2]; exact nI_ix (show c + 1 < 401 by omega) (by omega)
  have kk : ∃ r h', mj_C (d + 2) nX7_reachFrom [.ref 14, .int (nI c), .int (nI t.2.2.2)] (fbH sc F S G (y1, y2, y3, yr) M T C V A Z) r h' ∧ (r = some (.int (nI (bD b c t (bp b)).2.2.2)) ∧ ∃ z1 z2 z3, bRc b (bD b c t (bp b)) z1 z2 z3 ∧ h' = fbH sc F S G (z1, z2, z3, yr) M T C V A Z) := by
    have hX : ∀ s, s < bp b → tAt b c s = 1023 → bD b c t (s + 1) = bD b c t s := fun s _ q => if_pos q
    have x0 := nbp_0 hb hc (bD b c t) hX
    refine mj_C.ex rfl rfl rfl ?_
    refine mj_b1 8 rfl (i1) ?_
    rw [e1, h.st hc]
    refine mj_sq (S' := (13, [some (.ref 14), some (.int (nI c)), some (.int (nI t.2.2.2)), some (.int (nI (bD b c t (nbp b c 0)).2.2.2)), some (.int (nI (tSt b c + 0))), none], [], fbH sc F S G (y1, y2, y3, yr) M T C V A Z)) (by rw [x0] <;> rfl) ?_
    refine mj_itI (fun i (o : (fA × fA × fA) × Option Value) => bRc b (bD b c t (nbp b c i)) o.1.1 o.1.2.1 o.1.2.2) (fun i (o : (fA × fA × fA) × Option Value) => (13, [some (.ref 14), some (.int (nI c)), some (.int (nI t.2.2.2)), some (.int (nI (bD b c t (nbp b c i)).2.2.2)), some (.int (nI (tSt b c + i))), o.2], [], fbH sc F S G (o.1.1, o.1.2.1, o.1.2.2, yr) M T C V A Z)) (tDg b c) (fun i o hi3 hI ih => ?_) (fun o hI => ?_) ((y1, y2, y3), none) (by rw [x0]; exact hr)
    · obtain ⟨⟨y1, y2, y3⟩, o⟩ := o
      obtain ⟨s, hs, e6, e7, e8⟩ := nbp_n hb hc (bD b c t) hX hi3
      have ok := tNb_ok hb hc hi3
      have q : tAt b c s ≠ 1023 := by rw [e6]; exact ok.1
      have hx2 : tAt b c s < bn b := by rw [e6]; exact ok.2.1
      have e4 : (nI (tSt b c + i)).toNatClampNeg = tSt b c + i := nI_clamp (by omega)
      have i3 : vp_in (nI (tSt b c + i)) 2400 := nI_ix (show tSt b c + i < 2400 by omega) (by omega)
      obtain ⟨i1, i2'⟩ := hi.D hb hc h1 s (by omega)
      have hI : bRc b (bD b c t (nbp b c i)) y1 y2 y3 := hI
      rw [e7] at hI
      rw [e7]
      refine mj_b1 40 rfl (i2) ?_
      rw [e2, e3, h.sn hc]
      refine mj_brf (nI_ge (by omega) (by omega)) ?_
      have e2 : (nI (tAt b c s)).toNatClampNeg = tAt b c s := nI_clamp (by omega)
      have e9 : gbe G (tSt b c + i) = nI (tAt b c s) := by rw [h.nb hc hi3, e6]
      have ic : vp_in (nI c) 400 := nI_ix (show c < 400 by omega) (by omega)
      have ie : vp_in (nI (tAt b c s)) 400 := nI_ix (show tAt b c s < 400 by omega) (by omega)
      have hc4 : (bD b c t s).1 c < 400 := (i1.d hb hc).resolve_left (by rw [i2']; exact h1)
      have hI' : bRc b (bD b c t s) y1 y2 y3 := hI
      have r1 : y1 (tAt b c s) = nv ((bD b c t s).1 (tAt b c s)) := (hI'.1 _ hx2).1
      have r2 : y1 c = nv ((bD b c t s).1 c) := (hI'.1 _ hc).1
      obtain ⟨r, rr1, rr2⟩ := tb13 hb hc hs q
      obtain ⟨v1, v2, v3⟩ := i1.V hb hc (by rw [i2']; exact h1) hx2 rr1 rr2
      have hd4 : (bV c (tAt b c s) (bD b c t s)).1 (tAt b c s) < 400 := (v1.d hb hx2).resolve_left v3
      have fin : ∀ y1 y2 y3, bRc b (bV c (tAt b c s) (bD b c t s)) y1 y2 y3 → mj_R (mj_C (d + 1)) 7 false (some .int) iX7_reachFrom (86, [some (.ref 14), some (.int (nI c)), some (.int (nI t.2.2.2)), some (.int (nI (bV c (tAt b c s) (bD b c t s)).2.2.2)), some (.int (nI (tSt b c + i))), some (.int (nI (tAt b c s)))], [], fbH sc F S G (y1, y2, y3, yr) M T C V A Z) (fun r h' => r = some (.int (nI (bD b c t (bp b)).2.2.2)) ∧ ∃ z1 z2 z3, bRc b (bD b c t (bp b)) z1 z2 z3 ∧ h' = fbH sc F S G (z1, z2, z3, yr) M T C V A Z) := by
        intro y1 y2 y3 hy
        refine lc_ways hb v1 hy hc hx2 (by rw [v2]; exact hc4) hd4 (fun z1 z2 z3 hz => ?_)
        have e5 : bD b c t (s + 1) = bW c (tAt b c s) (bV c (tAt b c s) (bD b c t s)) := if_neg q
        have ih := ih ((z1, z2, z3), some (.int (nI (tAt b c s)))) (by rw [e8, e5]; exact hz)
        rw [e8, e5, bW_e] at ih
        exact ih
      refine mj_b1 40 rfl (⟨i3, by rw [e4, e9]; exact ie⟩) ?_
      rw [e4, e9, e2, show (y1, y2, y3, yr).1 (tAt b c s) = nv ((bD b c t s).1 (tAt b c s)) from r1]
      by_cases q2 : (bD b c t s).1 (tAt b c s) = 1023
      · have e6 := i1.lt hx2 q2
        have e7 : (nI (bD b c t s).2.2.2).toNatClampNeg = (bD b c t s).2.2.2 := nI_clamp (by omega)
        have hv := hI'.reach hc hc4 q2
        have e8 : (bV c (tAt b c s) (bD b c t s)).2.2.2 = (bD b c t s).2.2.2 + 1 := by
          unfold bV
          rw [if_pos q2]
        have f2 := fin _ _ _ hv
        rw [e8, ← nI_add _ 1] at f2
        refine mj_brf (by rw [q2]; exact fun z => z rfl) ?_
        refine mj_b0 40 rfl ?_
        refine mj_brf (show ¬ nI 400 ≤ nI (bD b c t s).2.2.2 from nI_ge (by omega) (by omega)) ?_
        refine mj_b1 16 rfl (⟨⟨ic, ie⟩, nI_ix (show (bD b c t s).2.2.2 < 400 by omega) (by omega)⟩) ?_
        refine mj_hq (h' := fbH sc F S G (upd y1 (tAt b c s) (nv ((bD b c t s).1 c) + nI 1), y2, upd y3 (bD b c t s).2.2.2 (nI (tAt b c s)), yr) M T C V A Z) (Eq.trans (b := fbH sc F S G (upd y1 (nI (tAt b c s)).toNatClampNeg (y1 (nI c).toNatClampNeg + nI 1), y2, upd y3 (nI (bD b c t s).2.2.2).toNatClampNeg (nI (tAt b c s)), yr) M T C V A Z) rfl (by rw [e1, e2, e7, r2])) ?_
        exact f2
      · have e8 : bV c (tAt b c s) (bD b c t s) = bD b c t s := if_neg q2
        have f2 := fin y1 y2 y3 (by rw [e8]; exact hI')
        rw [e8] at f2
        refine mj_brt (fun z => q2 ((nv_NO (by have := i1.d hb hx2; omega)).mp z)) ?_
        exact f2
    · refine mj_b1 40 rfl (i2) ?_
      rw [e2, e3, h.sn hc]
      refine mj_brt (nI_le (Nat.le_refl _) (by omega)) ?_
      have hI : bRc b (bD b c t (nbp b c (tDg b c))) o.1.1 o.1.2.1 o.1.2.2 := hI
      rw [nbp_end] at hI
      rw [nbp_end]
      refine mj_b0 40 rfl ?_
      exact mj_end rfl rfl trivial ⟨rfl, _, _, _, hI, rfl⟩
  obtain ⟨r, h', k1, rfl, z1, z2, z3, g1, rfl⟩ := kk
  exact ⟨z1, z2, z3, g1, k1⟩
theorem lc_bfs {b a : Nat} (hb : b < 22) (h : Bd b G) : ∀ (j k : Nat) (t : bsT) (y1 y2 y3 : fA), j + k = bn b → bInv b t → bRc b t y1 y2 y3 → mj_R (mj_C (d + 2)) 7 false none iX7_measure (42, [some (.ref 14), some (.int (nI a)), some (.int (nI t.2.2.2)), some (.int (nI k))], [], fbH sc F S G (y1, y2, y3, yr) M T C V A Z) (fun r h' => r = none ∧ ∃ z1 z2 z3, bRc b (bF b j k t) z1 z2 z3 ∧ h' = fbH sc F S G (z1, z2, z3, yr) M T C V A Z) := by
  have t0 := tb0 hb
  intro j
  induction j with
  | zero =>
    intro k t y1 y2 y3 hk hi hr
    have := hi.e
    refine mj_b0 40 rfl ?_
    refine mj_brt (nI_le (by omega) (by omega)) ?_
    exact mj_end rfl rfl trivial ⟨rfl, y1, y2, y3, hr, rfl⟩
  | succ j ih =>
    intro k t y1 y2 y3 hk hi hr
    have he := hi.e
    refine mj_b0 40 rfl ?_
    by_cases q : k < t.2.2.2
    · have q2 := hi.1 k q
      have e1 : (nI k).toNatClampNeg = k := nI_clamp (by omega)
      obtain ⟨z1, z2, z3, g1, g2⟩ := x_reachFrom (sc := sc) (F := F) (S := S) (yr := yr) (M := M) (T := T) (C := C) (V := V) (A := A) (Z := Z) (d := d) hb h hi hr q2.1 q2.2
      have ih := ih (k + 1) _ z1 z2 z3 (by omega) (hi.D hb q2.1 q2.2 (bp b) (Nat.le_refl _)).1 g1
      rw [← nI_add k 1] at ih
      refine mj_brf (nI_ge q (by omega)) ?_
      refine mj_b0 40 rfl ?_
      refine mj_brf (by rw [bd_cl h]; exact nI_ge (by omega) (by omega)) ?_
      refine mj_b1 40 rfl (nI_ix (show k < 400 by omega) (by omega)) ?_
      rw [e1, show (y1, y2, y3, yr).2.2.1 k = nI (t.2.2.1 k) from hr.2 k q]
      refine mj_cV rfl rfl rfl rfl rfl rfl (g2) ?_
      refine mj_b0 3 rfl ?_
      simp only [bF, if_pos q]
      exact ih
    · refine mj_brt (nI_le (by omega) (by omega)) ?_
      simp only [bF, if_neg q]
      exact mj_end rfl rfl trivial ⟨rfl, y1, y2, y3, hr, rfl⟩
theorem x_measure {b a : Nat} {y1 y2 y3 : fA} (hb : b < 22) (h : Bd b G) (ha : a < bn b) : ∃ z1 z2 z3, bRc b (bF b (bn b) 0 (bI0 a)) z1 z2 z3 ∧ mj_C (d + 3) nX7_measure [.ref 14, .int (nI a)] (fbH sc F S G (y1, y2, y3, yr) M T C V A Z) none (fbH sc F S G (z1, z2, z3, yr) M T C V A Z) := by
  have t0 := tb0 hb
  have e1 : (nI a).toNatClampNeg = a := nI_clamp (by omega)
  have ia : vp_in (nI a) 400 := nI_ix (show a < 400 by omega) (by omega)
  have kk : ∃ r h', mj_C (d + 3) nX7_measure [.ref 14, .int (nI a)] (fbH sc F S G (y1, y2, y3, yr) M T C V A Z) r h' ∧ (r = none ∧ ∃ z1 z2 z3, bRc b (bF b (bn b) 0 (bI0 a)) z1 z2 z3 ∧ h' = fbH sc F S G (z1, z2, z3, yr) M T C V A Z) := by
    refine mj_C.ex rfl rfl rfl ?_
    refine mj_b0 40 rfl ?_
    refine mj_cS rfl rfl rfl rfl (c_fill (a := 15) (n := 400) (f := y1) NO (by decide) rfl) ?_
    refine mj_hq (h' := fbH sc F S G (fl 400 NO y1, y2, y3, yr) M T C V A Z) rfl ?_
    refine mj_b0 40 rfl ?_
    refine mj_cS rfl rfl rfl rfl (c_fill (a := 16) (n := 400) (f := y2) (nI 0) (by decide) rfl) ?_
    refine mj_hq (h' := fbH sc F S G (fl 400 NO y1, fl 400 (nI 0) y2, y3, yr) M T C V A Z) rfl ?_
    refine mj_b1 19 rfl (⟨⟨ia, ia⟩, show vp_in (nI 0) 400 from nI_ix (by omega) (by omega)⟩) ?_
    refine mj_hq (h' := fbH sc F S G (upd (fl 400 NO y1) a (nI 0), upd (fl 400 (nI 0) y2) a (nI 1), upd y3 0 (nI a), yr) M T C V A Z) (Eq.trans (b := fbH sc F S G (upd (fl 400 NO y1) (nI a).toNatClampNeg (nI 0), upd (fl 400 (nI 0) y2) (nI a).toNatClampNeg (nI 1), upd y3 0 (nI a), yr) M T C V A Z) rfl (by rw [e1])) ?_
    refine lc_bfs hb h (bn b) 0 (bI0 a) _ _ _ (by omega) (bInv.I hb ha) ⟨fun c hc => ?_, fun i hi => ?_⟩
    · show upd (fl 400 NO y1) a (nI 0) c = nv (if c = a then 0 else 1023) ∧ upd (fl 400 (nI 0) y2) a (nI 1) c = nI (if c = a then 1 else 0)
      by_cases e : c = a
      · rw [e, pk_us, pk_us, if_pos rfl, if_pos rfl]
        exact ⟨rfl, rfl⟩
      · rw [pk_un e, pk_un e, if_neg e, if_neg e]
        exact ⟨if_pos (by omega), if_pos (by omega)⟩
    · show upd y3 0 (nI a) i = nI a
      have hi' : i < 1 := hi
      rw [show i = 0 by omega, pk_us]
  obtain ⟨r, h', k1, rfl, z1, z2, z3, g1, rfl⟩ := kk
  exact ⟨z1, z2, z3, g1, k1⟩
end BC
