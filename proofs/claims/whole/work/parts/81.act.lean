/-! promise 18: an act of the mouse, both -/
def sdN (b x y : Nat) : Nat := (sdTo (fun s => nv (tAt b x s)) (nI y) (bp b) 0).toNatClampNeg
theorem sdTo_ex {f : Nat → Int32} {o : Int32} {p : Nat} (hp : p ≤ 10) : ∀ (j k s : Nat), j + k = p → k ≤ s → s < p → f s = o → ∃ r, r < p ∧ sdTo f o j k = nI r
  | 0, k, s, h, h1, h2, _ => absurd h2 (by omega)
  | j + 1, k, s, h, h1, h2, h3 => by
    simp only [sdTo]
    by_cases q : f k = o
    · rw [if_pos q]
      exact ⟨k, by omega, rfl⟩
    · rw [if_neg q]
      have : k ≠ s := fun z => q (by rw [z]; exact h3)
      exact sdTo_ex hp j (k + 1) s (by omega) (by omega) h2 h3
theorem sdN_ok {b c s : Nat} (hb : b < 22) (hc : c < bn b) (hs : s < bp b) (h : tAt b c s ≠ 1023) : sdN b (tAt b c s) c < bp b ∧ sdTo (fun s' => nv (tAt b (tAt b c s) s')) (nI c) (bp b) 0 = nI (sdN b (tAt b c s) c) := by
  have t0 := tb0 hb
  obtain ⟨r, r1, r2⟩ := tb13 hb hc hs h
  obtain ⟨r', g1, g2⟩ := sdTo_ex (f := fun s' => nv (tAt b (tAt b c s) s')) (o := nI c) (p := bp b) (by omega) (bp b) 0 r (by omega) (by omega) r1 (by
    show nv (tAt b (tAt b c s) r) = nI c
    rw [r2, nv_is (by omega)])
  unfold sdN
  rw [g2, nI_clamp (by omega)]
  exact ⟨g1, rfl⟩
def am (b l : Nat) (M : fM) : fM :=
  if l = 102 then (if tAt b M.1.toNatClampNeg M.2.1.toNatClampNeg = 1023 then (M.1, M.2.1, M.2.2.1 + nI 1, M.2.2.2)
    else (nI (tAt b M.1.toNatClampNeg M.2.1.toNatClampNeg), nI ((sdN b (tAt b M.1.toNatClampNeg M.2.1.toNatClampNeg) M.1.toNatClampNeg + bp b / 2) % bp b), M.2.2.1, M.2.2.2 + nI 1))
  else (M.1, nI ((M.2.1.toNatClampNeg + (if l = 108 then bp b - 1 else if l = 114 then 1 else bp b / 2)) % bp b), M.2.2.1, M.2.2.2)
def MS (b : Nat) (M : fM) : Prop := ∃ c f, c < bn b ∧ f < bp b ∧ M.1 = nI c ∧ M.2.1 = nI f
theorem am_MS {b l : Nat} {M : fM} (hb : b < 22) (h : MS b M) : MS b (am b l M) := by
  obtain ⟨x, y, hx, hy, e1, e2⟩ := h
  have t0 := tb0 hb
  have c1 : M.1.toNatClampNeg = x := by rw [e1]; exact nI_clamp (by omega)
  have c2 : M.2.1.toNatClampNeg = y := by rw [e2]; exact nI_clamp (by omega)
  unfold am
  rw [c1, c2]
  by_cases h1 : l = 102
  · rw [if_pos h1]
    by_cases h2 : tAt b x y = 1023
    · rw [if_pos h2]
      exact ⟨x, y, hx, hy, e1, e2⟩
    · rw [if_neg h2]
      exact ⟨_, _, (((tb1 hb hx).2.2.2.2.2 y hy).resolve_left h2).1, Nat.mod_lt _ (by omega), rfl, rfl⟩
  · rw [if_neg h1]
    exact ⟨x, _, hx, Nat.mod_lt _ (by omega), e1, rfl⟩
section AC
variable {sc : mj_E} {F : Int32 × Int32} {S : fA × fA × fA} {G : fG} {Y : fY} {T : fT} {C : fC} {V : fV} {A : fA × Int32} {Z : mj_H} {d : Nat}
theorem c_sideOn {M : fM} {b x y : Nat} (hb : b < 22) (h : Bd b G) (hx : x < bp b) (hy : y < bp b) : mj_C (d + 1) nX2_sideOn [.ref 6, .int (nI x), .int (nI y)] (fbH sc F S G Y M T C V A Z) (some (.int (nI ((x + y) % bp b)))) (fbH sc F S G Y M T C V A Z) := by
  have t0 := tb0 hb
  refine mj_C.of rfl rfl rfl ?_
  refine mj_b0 40 rfl ?_
  rw [nI_add]
  by_cases q : x + y < bp b
  · refine mj_brt (by rw [bd_sd h]; exact nI_lt q (by omega)) ?_
    refine mj_b0 40 rfl ?_
    exact mj_end rfl rfl trivial ⟨by rw [Nat.mod_eq_of_lt q], rfl⟩
  · refine mj_brf (by rw [bd_sd h]; exact nI_nlt (by omega) (by omega)) ?_
    refine mj_b0 40 rfl ?_
    rw [bd_sd h]
    exact mj_end rfl rfl trivial ⟨by rw [pk_sub (by omega), Nat.mod_eq_sub_mod (by omega), Nat.mod_eq_of_lt (by omega)], rfl⟩
theorem c_forward {b x y : Nat} {m3 m4 : Int32} (hb : b < 22) (h : Bd b G) (hx : x < bn b) (hy : y < bp b) : mj_C (d + 3) nX4_forward [.ref 20] (fbH sc F S G Y (nI x, nI y, m3, m4) T C V A Z) none (fbH sc F S G Y (am b 102 (nI x, nI y, m3, m4)) T C V A Z) := by
  have t0 := tb0 hb
  have t1 := (tb1 hb hx).2.2.2.2.2 y hy
  have c1 : (nI x).toNatClampNeg = x := nI_clamp (by omega)
  have c2 : (nI y).toNatClampNeg = y := nI_clamp (by omega)
  unfold am
  rw [if_pos rfl]
  simp only []
  rw [c1, c2]
  refine mj_C.of rfl rfl rfl ?_
  refine mj_b0 40 rfl ?_
  refine mj_cV rfl rfl rfl rfl rfl rfl (c_beyond hb h hx hy) ?_
  rw [bd_at h hx hy]
  refine mj_b0 40 rfl ?_
  by_cases q : tAt b x y = 1023
  · rw [if_pos q]
    refine mj_brf (by rw [q]; exact fun z => z rfl) ?_
    refine mj_b0 40 rfl ?_
    exact mj_end rfl rfl trivial ⟨rfl, rfl⟩
  · rw [if_neg q]
    have hx2 := (t1.resolve_left q).1
    obtain ⟨g1, g2⟩ := sdN_ok hb hx hy q
    refine mj_brt (fun z => q ((nv_NO (tAt_lt b x y)).mp z)) ?_
    rw [nv_is q]
    refine mj_b0 40 rfl ?_
    have hs := c_sideTo (sc := sc) (F := F) (S := S) (G := G) (Y := Y) (M := (nI x, nI y, m3, m4)) (T := T) (C := C) (V := V) (A := A) (Z := Z) (d := d) hb h hx2 (nI_ne_NO (x := x) (by omega))
    rw [sdTo_cong (f' := fun s' => nv (tAt b (tAt b x y) s')) (bp b) 0 (bp b) (by omega) (fun s' hs' => bd_at h hx2 hs'), g2] at hs
    refine mj_cV rfl rfl rfl rfl rfl rfl (hs) ?_
    refine mj_b1 40 rfl (show ¬ nI 2 = 0 by decide) ?_
    rw [bd_sd h, show nI (bp b) / mj_kc 2 = nI (bp b / 2) from pk_div (a := bp b) (d := 2) (by omega) (by omega) (by omega)]
    refine mj_cV rfl rfl rfl rfl rfl rfl (c_sideOn hb h g1 (show bp b / 2 < bp b by omega)) ?_
    refine mj_b0 40 rfl ?_
    exact mj_end rfl rfl trivial ⟨rfl, rfl⟩
theorem c_act {M : fM} {b l : Nat} (hb : b < 22) (h : Bd b G) (hM : MS b M) (hl : l = 102 ∨ l = 108 ∨ l = 114 ∨ l = 98) : mj_C (d + 4) nX4_act [.ref 20, .int (nI l)] (fbH sc F S G Y M T C V A Z) none (fbH sc F S G Y (am b l M) T C V A Z) := by
  have t0 := tb0 hb
  obtain ⟨m1, m2, m3, m4⟩ := M
  obtain ⟨x, y, hx, hy, e1, e2⟩ := hM
  have e1' : m1 = nI x := e1
  have e2' : m2 = nI y := e2
  subst e1'
  subst e2'
  have c2 : (nI y).toNatClampNeg = y := nI_clamp (by omega)
  rcases hl with rfl | rfl | rfl | rfl
  · refine mj_C.of rfl rfl rfl ?_
    refine mj_b0 40 rfl ?_
    refine mj_swt (t := 36) rfl (⟨by decide, rfl⟩) ?_
    refine mj_b0 40 rfl ?_
    refine mj_cV rfl rfl rfl rfl rfl rfl (c_forward hb h hx hy) ?_
    refine mj_b0 40 rfl ?_
    exact mj_end rfl rfl trivial ⟨rfl, rfl⟩
  · refine mj_C.of rfl rfl rfl ?_
    refine mj_b0 40 rfl ?_
    refine mj_swt (t := 43) rfl (⟨by decide, rfl⟩) ?_
    refine mj_b0 40 rfl ?_
    rw [bd_sd h, show nI (bp b) - mj_kc 1 = nI (bp b - 1) from pk_sub (b := 1) (by omega)]
    refine mj_cV rfl rfl rfl rfl rfl rfl (c_sideOn hb h hy (show bp b - 1 < bp b by omega)) ?_
    refine mj_b0 40 rfl ?_
    refine mj_end rfl rfl trivial ⟨rfl, ?_⟩
    exact Eq.trans (b := fbH sc F S G Y (nI x, nI ((y + (bp b - 1)) % bp b), m3, m4) T C V A Z) rfl (by
      show _ = fbH sc F S G Y (nI x, nI (((nI y).toNatClampNeg + (bp b - 1)) % bp b), m3, m4) T C V A Z
      rw [c2])
  · refine mj_C.of rfl rfl rfl ?_
    refine mj_b0 40 rfl ?_
    refine mj_swt (t := 70) rfl (⟨by decide, rfl⟩) ?_
    refine mj_b0 40 rfl ?_
    refine mj_cV rfl rfl rfl rfl rfl rfl (c_sideOn hb h hy (show 1 < bp b by omega)) ?_
    refine mj_b0 40 rfl ?_
    refine mj_end rfl rfl trivial ⟨rfl, ?_⟩
    exact Eq.trans (b := fbH sc F S G Y (nI x, nI ((y + 1) % bp b), m3, m4) T C V A Z) rfl (by
      show _ = fbH sc F S G Y (nI x, nI (((nI y).toNatClampNeg + 1) % bp b), m3, m4) T C V A Z
      rw [c2])
  · refine mj_C.of rfl rfl rfl ?_
    refine mj_b0 40 rfl ?_
    refine mj_swt (t := 89) rfl (⟨by decide, rfl⟩) ?_
    refine mj_b1 40 rfl (show ¬ nI 2 = 0 by decide) ?_
    rw [bd_sd h, show nI (bp b) / mj_kc 2 = nI (bp b / 2) from pk_div (a := bp b) (d := 2) (by omega) (by omega) (by omega)]
    refine mj_cV rfl rfl rfl rfl rfl rfl (c_sideOn hb h hy (show bp b / 2 < bp b by omega)) ?_
    refine mj_b0 40 rfl ?_
    refine mj_end rfl rfl trivial ⟨rfl, ?_⟩
    exact Eq.trans (b := fbH sc F S G Y (nI x, nI ((y + bp b / 2) % bp b), m3, m4) T C V A Z) rfl (by
      show _ = fbH sc F S G Y (nI x, nI (((nI y).toNatClampNeg + bp b / 2) % bp b), m3, m4) T C V A Z
      rw [c2])
end AC
section ACm
variable {P : fP} {U : fU} {s : fA × fA × fA} {g : fG} {w : fW} {t : fR} {c : fA × fA × fA} {v : fA × fA} {a : fA × Int32} {d : Nat}
theorem m_act {m : fM} {b l : Nat} (hb : b < 22) (h : Bd b g) (hM : MS b m) (hl : l = 102 ∨ l = 108 ∨ l = 114 ∨ l = 98) : mj_C (d + 2) nX9_act [.ref 35, .int (nI l)] (fbP P (mdZ U s g w m t c v a)) none (fbP P (mdZ U s g w (am b l m) t c v a)) := by
  have t0 := tb0 hb
  obtain ⟨m1, m2, m3, m4⟩ := m
  obtain ⟨x, y, hx, hy, e1, e2⟩ := hM
  have e1' : m1 = nI x := e1
  have e2' : m2 = nI y := e2
  subst e1'
  subst e2'
  have c1 : (nI x).toNatClampNeg = x := nI_clamp (by omega)
  have c2 : (nI y).toNatClampNeg = y := nI_clamp (by omega)
  have hp0 : ¬ nI (bp b) = 0 := nI_ne0 (by omega) (by omega)
  rcases hl with rfl | rfl | rfl | rfl
  · have t1 := (tb1 hb hx).2.2.2.2.2 y hy
    have e3 : nI 10 * nI x + nI y = nI (x * 10 + y) := by rw [pk_mul, nI_add, Nat.mul_comm]
    have e4 : (nI (x * 10 + y)).toNatClampNeg = x * 10 + y := nI_clamp (by omega)
    unfold am
    rw [if_pos rfl]
    simp only []
    rw [c1, c2]
    refine mj_C.of rfl rfl rfl ?_
    refine mj_b0 40 rfl ?_
    refine mj_brt (show ¬ nI 102 = nI 108 by decide) ?_
    refine mj_b0 40 rfl ?_
    refine mj_brt (show ¬ nI 102 = nI 114 by decide) ?_
    refine mj_b0 40 rfl ?_
    refine mj_brt (show ¬ nI 102 = nI 98 by decide) ?_
    refine mj_b1 10 rfl (by show vp_in (nI 10 * nI x + nI y) 4000; rw [e3]; exact nI_ix (by omega) (by omega)) ?_
    refine mj_sq (S' := (99, [some (.ref 35), some (.int (nI 102)), none], [.int (nv (tAt b x y))], fbP P (mdZ U s g w (nI x, nI y, m3, m4) t c v a))) (by rw [← bd_at h hx hy, ← e4, ← e3] <;> rfl) ?_
    refine mj_b0 40 rfl ?_
    by_cases q : tAt b x y = 1023
    · rw [if_pos q]
      refine mj_brf (by rw [q]; exact fun z => z rfl) ?_
      refine mj_b0 40 rfl ?_
      exact mj_end rfl rfl trivial ⟨rfl, rfl⟩
    · rw [if_neg q]
      have hx2 := (t1.resolve_left q).1
      obtain ⟨g1, g2⟩ := sdN_ok hb hx hy q
      refine mj_brt (fun z => q ((nv_NO (tAt_lt b x y)).mp z)) ?_
      rw [nv_is q]
      refine mj_b0 40 rfl ?_
      have hs := m_byOf (P := P) (U := U) (s := s) (g := g) (w := w) (m := (nI x, nI y, m3, m4)) (t := t) (c := c) (v := v) (a := a) (d := d) (p := bp b) (i := tAt b x y) (by omega) (by omega) (bd_sd h) (nI x)
      rw [sdTo_cong (f' := fun s' => nv (tAt b (tAt b x y) s')) (bp b) 0 (bp b) (by omega) (fun s' hs' => bd_at h hx2 hs'), g2] at hs
      refine mj_cV rfl rfl rfl rfl rfl rfl (hs) ?_
      refine mj_b1 4 rfl (show ¬ nI 2 = 0 by decide) ?_
      rw [bd_sd h, show nI (bp b) / mj_kc 2 = nI (bp b / 2) from pk_div (a := bp b) (d := 2) (by omega) (by omega) (by omega)]
      refine mj_b0 1 rfl ?_
      rw [nI_add]
      refine mj_b1 40 rfl (by rw [bd_sd h]; exact hp0) ?_
      refine mj_end rfl rfl trivial ⟨rfl, ?_⟩
      exact Eq.trans (b := fbP P (mdZ U s g w (nI (tAt b x y), f_irem (nI (sdN b (tAt b x y) x + bp b / 2)) (gsd g), m3, m4 + nI 1) t c v a)) rfl (by
        rw [bd_sd h, show f_irem (nI (sdN b (tAt b x y) x + bp b / 2)) (nI (bp b)) = nI ((sdN b (tAt b x y) x + bp b / 2) % bp b) from pk_rem (by omega) (by omega) (by omega)])
  · refine mj_C.of rfl rfl rfl ?_
    refine mj_b0 40 rfl ?_
    refine mj_brf (show ¬ ¬ nI 108 = nI 108 by decide) ?_
    refine mj_b0 8 rfl ?_
    rw [bd_sd h, nI_add, show nI (y + bp b) - mj_kc 1 = nI (y + (bp b - 1)) by
      show nI (y + bp b) - nI 1 = _
      rw [pk_sub (by omega), show y + bp b - 1 = y + (bp b - 1) by omega]]
    refine mj_b1 40 rfl (by rw [bd_sd h]; exact hp0) ?_
    refine mj_end rfl rfl trivial ⟨rfl, ?_⟩
    exact Eq.trans (b := fbP P (mdZ U s g w (nI x, f_irem (nI (y + (bp b - 1))) (gsd g), m3, m4) t c v a)) rfl (by
      rw [bd_sd h, show f_irem (nI (y + (bp b - 1))) (nI (bp b)) = nI ((y + (bp b - 1)) % bp b) from pk_rem (by omega) (by omega) (by omega)]
      show _ = fbP P (mdZ U s g w (nI x, nI (((nI y).toNatClampNeg + (bp b - 1)) % bp b), m3, m4) t c v a)
      rw [c2])
  · refine mj_C.of rfl rfl rfl ?_
    refine mj_b0 40 rfl ?_
    refine mj_brt (show ¬ nI 114 = nI 108 by decide) ?_
    refine mj_b0 40 rfl ?_
    refine mj_brf (show ¬ ¬ nI 114 = nI 114 by decide) ?_
    refine mj_b0 5 rfl ?_
    rw [show nI y + mj_kc 1 = nI (y + 1) from nI_add y 1]
    refine mj_b1 40 rfl (by rw [bd_sd h]; exact hp0) ?_
    refine mj_end rfl rfl trivial ⟨rfl, ?_⟩
    exact Eq.trans (b := fbP P (mdZ U s g w (nI x, f_irem (nI (y + 1)) (gsd g), m3, m4) t c v a)) rfl (by
      rw [bd_sd h, show f_irem (nI (y + 1)) (nI (bp b)) = nI ((y + 1) % bp b) from pk_rem (by omega) (by omega) (by omega)]
      show _ = fbP P (mdZ U s g w (nI x, nI (((nI y).toNatClampNeg + 1) % bp b), m3, m4) t c v a)
      rw [c2])
  · refine mj_C.of rfl rfl rfl ?_
    refine mj_b0 40 rfl ?_
    refine mj_brt (show ¬ nI 98 = nI 108 by decide) ?_
    refine mj_b0 40 rfl ?_
    refine mj_brt (show ¬ nI 98 = nI 114 by decide) ?_
    refine mj_b0 40 rfl ?_
    refine mj_brf (show ¬ ¬ nI 98 = nI 98 by decide) ?_
    refine mj_b1 7 rfl (show ¬ nI 2 = 0 by decide) ?_
    rw [bd_sd h, show nI (bp b) / mj_kc 2 = nI (bp b / 2) from pk_div (a := bp b) (d := 2) (by omega) (by omega) (by omega)]
    refine mj_b0 1 rfl ?_
    rw [nI_add]
    refine mj_b1 40 rfl (by rw [bd_sd h]; exact hp0) ?_
    refine mj_end rfl rfl trivial ⟨rfl, ?_⟩
    exact Eq.trans (b := fbP P (mdZ U s g w (nI x, f_irem (nI (y + bp b / 2)) (gsd g), m3, m4) t c v a)) rfl (by
      rw [bd_sd h, show f_irem (nI (y + bp b / 2)) (nI (bp b)) = nI ((y + bp b / 2) % bp b) from pk_rem (by omega) (by omega) (by omega)]
      show _ = fbP P (mdZ U s g w (nI x, nI (((nI y).toNatClampNeg + bp b / 2) % bp b), m3, m4) t c v a)
      rw [c2])
end ACm
def amL (b : Nat) : List Nat → fM → fM
  | [], M => M
  | l :: L, M => amL b L (am b l M)
theorem amL_app (b : Nat) : ∀ (L L' : List Nat) (M : fM), amL b (L ++ L') M = amL b L' (amL b L M)
  | [], L', M => rfl
  | l :: L, L', M => amL_app b L L' (am b l M)
