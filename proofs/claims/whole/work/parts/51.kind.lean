/-! calls whose answer hangs on the board alone -/
theorem Sim.board {d y1 y2 : Nat} {av : List Value} (k : ∀ b, b < 22 → ∃ r, (∀ (sc : mj_E) (F : Int32 × Int32) (S : fA × fA × fA) (G : fG) (Y : fY) (M : fM) (T : fT) (C : fC) (V : fV) (A : fA × Int32) (Z : mj_H), Bd b G → (Y.2.2.2.2.2 = (18, 19) ∨ Y.2.2.2.2.2 = (19, 18)) → ∃ (Y' : fY) (C2 : fA × fA), (Y'.2.2.2.2.2 = (18, 19) ∨ Y'.2.2.2.2.2 = (19, 18)) ∧ mj_C d y1 (.ref 1 :: av) (fbH sc F S G Y M T C V A Z) (some (.int r)) (fbH sc F S G Y' M T (C.1, C2) V A Z)) ∧ (∀ (P : fP) (U : fU) (s : fA × fA × fA) (g : fG) (w : fW) (m : fM) (t : fR) (c : fA × fA × fA) (v : fA × fA) (a : fA × Int32), Bd b g → ∃ (w' : fW) (c2 : fA × fA), mj_C d y2 (.ref 35 :: av) (fbP P (mdZ U s g w m t c v a)) (some (.int r)) (fbP P (mdZ (nI 0, U.2) s g w' m t (c.1, c2) v a)))) : Sim d y1 y2 av := by
  intro P z h
  obtain ⟨U, s, g, w, m, t, c, v, a⟩ := z
  obtain ⟨sc, F, S, G, Y, M, T, C, V, A⟩ := P
  obtain ⟨b, hb, h1, h2, h3, h4, h5, h6, h7, h8, h9, h10⟩ := id h
  obtain ⟨r, k1, k2⟩ := k b hb
  obtain ⟨Y', C2, hy, kc⟩ := k1 sc F S G Y M T C V A (mdz (U, s, g, w, m, t, c, v, a)) h1 h6
  obtain ⟨w', c2, km⟩ := k2 (sc, F, S, G, Y', M, T, (C.1, C2), V, A) U s g w m t c v a h2
  exact ⟨r, (sc, F, S, G, Y', M, T, (C.1, C2), V, A), ((nI 0, U.2), s, g, w', m, t, (c.1, c2), v, a), kc, km, ⟨b, hb, h1, h2, h3, h4, h5, hy, h7, h8, h9, h10⟩⟩
/-- the same, with nothing written -/
theorem Sim.board0 {d y1 y2 : Nat} {av : List Value} (k : ∀ b, b < 22 → ∃ r, (∀ (sc : mj_E) (F : Int32 × Int32) (S : fA × fA × fA) (G : fG) (Y : fY) (M : fM) (T : fT) (C : fC) (V : fV) (A : fA × Int32) (Z : mj_H), Bd b G → mj_C d y1 (.ref 1 :: av) (fbH sc F S G Y M T C V A Z) (some (.int r)) (fbH sc F S G Y M T C V A Z)) ∧ (∀ (P : fP) (U : fU) (s : fA × fA × fA) (g : fG) (w : fW) (m : fM) (t : fR) (c : fA × fA × fA) (v : fA × fA) (a : fA × Int32), Bd b g → mj_C d y2 (.ref 35 :: av) (fbP P (mdZ U s g w m t c v a)) (some (.int r)) (fbP P (mdZ (nI 0, U.2) s g w m t c v a)))) : Sim d y1 y2 av := by
  refine Sim.board (fun b hb => ?_)
  obtain ⟨r, k1, k2⟩ := k b hb
  exact ⟨r, fun sc F S G Y M T C V A Z hG hY => ⟨Y, C.2, hY, k1 sc F S G Y M T C V A Z hG⟩, fun P U s g w m t c v a hg => ⟨w, c.2, k2 P U s g w m t c v a hg⟩⟩
def tKd (b c : Nat) : Nat := if 0 < br b ∧ tRo b c = br b then 3 else tPar b c
theorem tPar_le (b c : Nat) : tPar b c ≤ 2 := by
  unfold tPar
  split
  · split <;> omega
  · omega
theorem tRo0 {b c : Nat} (hb : b < 22) (hc : c < bn b) : tRo b c = 0 ↔ c = 0 := by
  have t5 := tb5 hb
  have t1 := tb1 hb hc
  constructor
  · intro h
    rw [h, t5.2.2.2.1] at t1
    omega
  · rintro rfl
    exact t5.1
theorem Bd.par {b c : Nat} {G : fG} (h : Bd b G) (hc : c < bn b) : iPar G c = tPar b c := by
  unfold iPar tPar
  rw [bd_fp h hc, bd_op h hc]
  by_cases e : tOp b c = 1023
  · rw [if_pos e, if_pos ((nv_NO (tOp_lt b c)).mpr e)]
    by_cases e2 : tFp b c = 1023
    · rw [if_pos e2, if_pos ((nv_NO (tFp_lt b c)).mpr e2)]
    · rw [if_neg e2, if_neg (fun q => e2 ((nv_NO (tFp_lt b c)).mp q))]
  · rw [if_neg e, if_neg (fun q => e ((nv_NO (tOp_lt b c)).mp q))]
theorem Bd.mpar {b c : Nat} {G : fG} (hb : b < 22) (h : Bd b G) (hc : c < bn b) : (if gfp G c = NO then 0 else if gop G c = NO then 1 else 2) = tPar b c := by
  rw [bd_fp h hc, bd_op h hc]
  by_cases h1 : 1 ≤ c
  · rw [if_neg (fun z => tb6 hb hc h1 ((nv_NO (tFp_lt b c)).mp z))]
    unfold tPar
    by_cases q : tOp b c = 1023
    · rw [if_pos q, if_pos ((nv_NO (tOp_lt b c)).mpr q), if_neg (tb6 hb hc h1)]
    · rw [if_neg q, if_neg (fun z => q ((nv_NO (tOp_lt b c)).mp z))]
  · have e : c = 0 := by omega
    subst e
    have t5 := tb5 hb
    rw [t5.2.1, if_pos nv_no]
    unfold tPar
    rw [t5.2.1, t5.2.2.1, if_pos rfl, if_pos rfl]
section KC
variable {sc : mj_E} {F : Int32 × Int32} {S : fA × fA × fA} {G : fG} {Y : fY} {M : fM} {T : fT} {C : fC} {V : fV} {A : fA × Int32} {Z : mj_H} {d : Nat}
theorem x_par {b c : Nat} (hb : b < 22) (h : Bd b G) (hc : c < bn b) : mj_C (d + 1) nX2_parentsOf [.ref 6, .int (nI c)] (fbH sc F S G Y M T C V A Z) (some (.int (nI (tPar b c)))) (fbH sc F S G Y M T C V A Z) := by
  have t0 := tb0 hb
  have k := c_parentsOf (sc := sc) (F := F) (S := S) (G := G) (Y := Y) (M := M) (T := T) (C := C) (V := V) (A := A) (Z := Z) (d := d) (show c < 400 by omega)
  rw [h.par hc] at k
  exact k
theorem c_toldKind {b c : Nat} (hb : b < 22) (h : Bd b G) (hc : c < bn b) : mj_C (d + 2) nX2_toldKind [.ref 6, .int (nI c)] (fbH sc F S G Y M T C V A Z) (some (.int (nI (tKd b c)))) (fbH sc F S G Y M T C V A Z) := by
  have t0 := tb0 hb
  have t1 := tb1 hb hc
  have e1 : (nI c).toNatClampNeg = c := nI_clamp (by omega)
  have fin : ¬ (0 < br b ∧ tRo b c = br b) → mj_R (mj_C (d + 1)) 2 false (some .int) iX2_toldKind (22, [some (.ref 6), some (.int (nI c))], [], (fbH sc F S G Y M T C V A Z)) (fun r2 h2 => r2 = some (.int (nI (tKd b c))) ∧ h2 = (fbH sc F S G Y M T C V A Z)) := by
    intro hq
    have e : tKd b c = tPar b c := if_neg hq
    rw [e]
    refine mj_b0 40 rfl ?_
    refine mj_cV rfl rfl rfl rfl rfl rfl (x_par hb h hc) ?_
    have t2 := tPar_le b c
    rcases (show tPar b c = 0 ∨ tPar b c = 1 ∨ tPar b c = 2 by omega) with q | q | q
    · rw [q]
      refine mj_swt (t := 56) rfl (⟨by decide, rfl⟩) ?_
      refine mj_b0 40 rfl ?_
      exact mj_end rfl rfl trivial ⟨rfl, rfl⟩
    · rw [q]
      refine mj_swt (t := 54) rfl (⟨by decide, rfl⟩) ?_
      refine mj_b0 40 rfl ?_
      exact mj_end rfl rfl trivial ⟨rfl, rfl⟩
    · rw [q]
      refine mj_swt (t := 52) rfl (⟨by decide, rfl⟩) ?_
      refine mj_b0 40 rfl ?_
      exact mj_end rfl rfl trivial ⟨rfl, rfl⟩
  refine mj_C.of rfl rfl rfl ?_
  refine mj_b0 40 rfl ?_
  by_cases q : br b = 0
  · refine mj_brt (by rw [bd_rg h, q]; decide) ?_
    exact fin (fun z => by omega)
  · refine mj_brf (by rw [bd_rg h]; exact nI_nle (by omega) (by omega)) ?_
    refine mj_b1 40 rfl (nI_ix (show c < 400 by omega) (by omega)) ?_
    rw [e1, bd_ro h hc, bd_rg h]
    by_cases q2 : tRo b c = br b
    · refine mj_brf (by rw [q2]; exact fun z => z rfl) ?_
      refine mj_b0 40 rfl ?_
      exact mj_end rfl rfl trivial ⟨by rw [show tKd b c = 3 from if_pos ⟨by omega, q2⟩]; rfl, rfl⟩
    · refine mj_brt (fun z => q2 ((nI_eq (by omega) (by omega)).mp z)) ?_
      exact fin (fun z => q2 z.2)
theorem sm_dg {b c : Nat} (hb : b < 22) (hc : c < bn b) : sm (fun s => if tAt b c s = 1023 then nI 0 else nI 1) (bp b) = nI (tDg b c) := by
  have hX : ∀ s, s < bp b → tAt b c s = 1023 → sm (fun s => if tAt b c s = 1023 then nI 0 else nI 1) (s + 1) = sm (fun s => if tAt b c s = 1023 then nI 0 else nI 1) s := fun s _ q => by
    simp only [sm, if_pos q]
    rw [show nI 0 = 0 from rfl, Int32.add_zero]
  have k : ∀ i, i ≤ tDg b c → sm (fun s => if tAt b c s = 1023 then nI 0 else nI 1) (nbp b c i) = nI i := by
    intro i
    induction i with
    | zero => intro _; rw [nbp_0 hb hc _ hX]; rfl
    | succ i ih =>
      intro hi
      obtain ⟨s, hs, e1, e2, e3⟩ := nbp_n hb hc _ hX (show i < tDg b c by omega)
      have ok := (tNb_ok hb hc (show i < tDg b c by omega)).1
      rw [e3, show sm (fun s => if tAt b c s = 1023 then nI 0 else nI 1) (s + 1) = sm (fun s => if tAt b c s = 1023 then nI 0 else nI 1) s + (if tAt b c s = 1023 then nI 0 else nI 1) from rfl, ← e2, ih (by omega), e1, if_neg ok, nI_add]
  have k2 := k (tDg b c) (Nat.le_refl _)
  rw [nbp_end] at k2
  exact k2
theorem c_besides {b c : Nat} (hb : b < 22) (h : Bd b G) (hc : c < bn b) : mj_C (d + 2) nX2_besides [.ref 6, .int (nI c)] (fbH sc F S G Y M T C V A Z) (some (.int (sm (fun s => if tAt b c s = 1023 then nI 0 else nI 1) (bp b)))) (fbH sc F S G Y M T C V A Z) := by
  have t0 := tb0 hb
  have ts := st_lt hb hc
  have e1 : (nI c).toNatClampNeg = c := nI_clamp (by omega)
  have e2 : nI c + mj_kc 1 = nI (c + 1) := nI_add c 1
  have e3 : (nI (c + 1)).toNatClampNeg = c + 1 := nI_clamp (by omega)
  have i1 : vp_in (nI c) 401 := nI_ix (show c < 401 by omega) (by omega)
  have i2 : vp_in (nI c + mj_kc 1) 401 := by rw [e2]; exact nI_ix (show c + 1 < 401 by omega) (by omega)
  refine mj_C.of rfl rfl rfl ?_
  refine mj_b1 40 rfl (⟨i2, i1⟩) ?_
  refine mj_end rfl rfl trivial ⟨?_, rfl⟩
  show some (Value.int (gbs G (nI c + mj_kc 1).toNatClampNeg - gbs G (nI c).toNatClampNeg)) = _
  rw [e2, e3, e1, h.st hc, h.sn hc, sm_dg hb hc, pk_sub (by omega), show tSt b c + tDg b c - tSt b c = tDg b c by omega]
theorem c_placeOf {b c : Nat} (hb : b < 22) (h : Bd b G) (hc : c < bn b) : mj_C (d + 1) nX2_placeOf [.ref 6, .int (nI c)] (fbH sc F S G Y M T C V A Z) (some (.int (nI c - nI (bRs b (tRo b c))))) (fbH sc F S G Y M T C V A Z) := by
  have t0 := tb0 hb
  have t1 := tb1 hb hc
  have e1 : (nI c).toNatClampNeg = c := nI_clamp (by omega)
  have e2 : (nI (tRo b c)).toNatClampNeg = tRo b c := nI_clamp (by omega)
  refine mj_C.of rfl rfl rfl ?_
  refine mj_b1 7 rfl (nI_ix (show c < 400 by omega) (by omega)) ?_
  rw [e1, bd_ro h hc]
  refine mj_b1 40 rfl (nI_ix (show tRo b c < 7 by omega) (by omega)) ?_
  rw [e2, bd_rs h (by omega)]
  exact mj_end rfl rfl trivial ⟨rfl, rfl⟩
end KC
section KM
variable {P : fP} {U : fU} {s : fA × fA × fA} {g : fG} {w : fW} {m : fM} {t : fR} {c : fA × fA × fA} {v : fA × fA} {a : fA × Int32} {d : Nat}
theorem xm_par0 {b x : Nat} (hb : b < 22) (h : Bd b g) (hx : x < bn b) : mj_C (d + 1) nX9_parents [.ref 35, .int (nI x)] (fbP P (mdZ U s g w m t c v a)) (some (.int (nI (tPar b x)))) (fbP P (mdZ U s g w m t c v a)) := by
  have t0 := tb0 hb
  have k := m_parents (P := P) (U := U) (s := s) (g := g) (w := w) (m := m) (t := t) (c := c) (v := v) (a := a) (d := d) (show x < 400 by omega)
  rw [h.mpar hb hx] at k
  exact k
theorem m_kindOf {b x : Nat} (hb : b < 22) (h : Bd b g) (hx : x < bn b) : mj_C (d + 2) nX9_kindOf [.ref 35, .int (nI x)] (fbP P (mdZ U s g w m t c v a)) (some (.int (nI (tKd b x)))) (fbP P (mdZ U s g w m t c v a)) := by
  have t0 := tb0 hb
  have t1 := tb1 hb hx
  have e1 : (nI x).toNatClampNeg = x := nI_clamp (by omega)
  have fin : ¬ (0 < br b ∧ tRo b x = br b) → mj_R (mj_C (d + 1)) 9 false (some .int) iX9_kindOf (21, [some (.ref 35), some (.int (nI x))], [], (fbP P (mdZ U s g w m t c v a))) (fun r2 h2 => r2 = some (.int (nI (tKd b x))) ∧ h2 = (fbP P (mdZ U s g w m t c v a))) := by
    intro hq
    have e : tKd b x = tPar b x := if_neg hq
    rw [e]
    refine mj_b0 40 rfl ?_
    refine mj_cV rfl rfl rfl rfl rfl rfl (xm_par0 hb h hx) ?_
    have t2 := tPar_le b x
    rcases (show tPar b x = 0 ∨ tPar b x = 1 ∨ tPar b x = 2 by omega) with q | q | q
    · rw [q]
      refine mj_b0 40 rfl ?_
      refine mj_brt (show ¬ nI 0 = nI 2 by decide) ?_
      refine mj_b0 40 rfl ?_
      refine mj_cV rfl rfl rfl rfl rfl rfl (xm_par0 hb h hx) ?_
      rw [q]
      refine mj_b0 40 rfl ?_
      refine mj_brt (show ¬ nI 0 = nI 1 by decide) ?_
      refine mj_b0 40 rfl ?_
      exact mj_end rfl rfl trivial ⟨rfl, rfl⟩
    · rw [q]
      refine mj_b0 40 rfl ?_
      refine mj_brt (show ¬ nI 1 = nI 2 by decide) ?_
      refine mj_b0 40 rfl ?_
      refine mj_cV rfl rfl rfl rfl rfl rfl (xm_par0 hb h hx) ?_
      rw [q]
      refine mj_b0 40 rfl ?_
      refine mj_brf (show ¬ ¬ nI 1 = nI 1 by decide) ?_
      refine mj_b0 40 rfl ?_
      exact mj_end rfl rfl trivial ⟨rfl, rfl⟩
    · rw [q]
      refine mj_b0 40 rfl ?_
      refine mj_brf (show ¬ ¬ nI 2 = nI 2 by decide) ?_
      refine mj_b0 40 rfl ?_
      exact mj_end rfl rfl trivial ⟨rfl, rfl⟩
  refine mj_C.of rfl rfl rfl ?_
  refine mj_b0 40 rfl ?_
  by_cases q : x = 0
  · subst q
    refine mj_brt (show nI 0 ≤ 0 by decide) ?_
    exact fin (fun z => by have := (tRo0 hb hx).mpr rfl; omega)
  · refine mj_brf (nI_nle (by omega) (by omega)) ?_
    refine mj_b1 40 rfl (nI_ix (show x < 400 by omega) (by omega)) ?_
    rw [e1, bd_ro h hx, bd_rg h]
    by_cases q2 : tRo b x = br b
    · refine mj_brf (by rw [q2]; exact fun z => z rfl) ?_
      refine mj_b0 40 rfl ?_
      exact mj_end rfl rfl trivial ⟨by rw [show tKd b x = 3 from if_pos ⟨by have z : tRo b x ≠ 0 := fun z => q ((tRo0 hb hx).mp z); omega, q2⟩]; rfl, rfl⟩
    · refine mj_brt (fun z => q2 ((nI_eq (by omega) (by omega)).mp z)) ?_
      exact fin (fun z => q2 z.2)
end KM
section KS
variable {d : Nat}
/-- a cell's number, or none -/
theorem ixb {b : Nat} (hb : b < 22) (x : Int32) : (¬ (¬ x < 0 ∧ ¬ nI (bn b) ≤ x)) ∨ ∃ j : Nat, j < bn b ∧ x = nI j := by
  have t0 := tb0 hb
  rcases pk_ix x (n := bn b) (by omega) with q | q | q
  · exact Or.inl (fun z => z.1 q)
  · exact Or.inl (fun z => z.2 q)
  · exact Or.inr q
theorem okb {b j : Nat} (hb : b < 22) (h : j < bn b) : ¬ nI j < 0 ∧ ¬ nI (bn b) ≤ nI j := by
  have t0 := tb0 hb
  exact ⟨nI_pos (by omega), nI_ge h (by omega)⟩
theorem x_has {sc : mj_E} {F : Int32 × Int32} {S : fA × fA × fA} {G : fG} {Y : fY} {M : fM} {T : fT} {C : fC} {V : fV} {A : fA × Int32} {Z : mj_H} {d : Nat} {b : Nat} (h : Bd b G) (x : Int32) : mj_C (d + 1) nX2_has [.ref 6, .int x] (fbH sc F S G Y M T C V A Z) (some (.int (vB (¬ x < 0 ∧ ¬ nI (bn b) ≤ x)))) (fbH sc F S G Y M T C V A Z) := by
  have k := c_has (sc := sc) (F := F) (S := S) (G := G) (Y := Y) (M := M) (T := T) (C := C) (V := V) (A := A) (Z := Z) (d := d) x
  rw [bd_cl h] at k
  exact k
theorem xm_isCell {P : fP} {U : fU} {s : fA × fA × fA} {g : fG} {w : fW} {m : fM} {t : fR} {c : fA × fA × fA} {v : fA × fA} {a : fA × Int32} {b : Nat} (hb : b < 22) (h : Bd b g) (x : Int32) : mj_C (d + 2) nX9_isCell [.ref 35, .int x] (fbP P (mdZ U s g w m t c v a)) (some (.int (vB (¬ x < 0 ∧ ¬ nI (bn b) ≤ x)))) (fbP P (mdZ U s g w m t c v a)) := by
  have t0 := tb0 hb
  exact m_isCell (bd_cl h) (by omega) (by omega) x
theorem xm_isSide {P : fP} {U : fU} {s : fA × fA × fA} {g : fG} {w : fW} {m : fM} {t : fR} {c : fA × fA × fA} {v : fA × fA} {a : fA × Int32} {b : Nat} (hb : b < 22) (h : Bd b g) (x : Int32) : mj_C (d + 2) nX9_isSide [.ref 35, .int x] (fbP P (mdZ U s g w m t c v a)) (some (.int (vB (¬ x < 0 ∧ ¬ nI (bp b) ≤ x)))) (fbP P (mdZ U s g w m t c v a)) := by
  have t0 := tb0 hb
  exact m_isSide (bd_sd h) (by omega) (by omega) x
/-- promise 31 -/
theorem s_kind (x : Int32) : Sim (d + 3) nX8_kind nX9_kind [.int x] := by
  refine Sim.board0 (fun b hb => ?_)
  rcases ixb hb x with q | ⟨j, hj, rfl⟩
  · refine ⟨BD, fun sc F S G Y M T C V A Z h => ?_, fun P U s g w m t c v a h => ?_⟩
    · refine mj_C.of rfl rfl rfl ?_
      refine mj_b0 40 rfl ?_
      refine mj_cV rfl rfl rfl rfl rfl rfl (x_has h x) ?_
      refine mj_b0 40 rfl ?_
      refine mj_brt (vB_0.mpr q) ?_
      refine mj_b0 40 rfl ?_
      exact mj_end rfl rfl trivial ⟨rfl, rfl⟩
    · refine mj_C.of rfl rfl rfl ?_
      refine mj_b0 40 rfl ?_
      refine mj_hq (h' := (fbP P (mdZ (nI 0, U.2) s g w m t c v a))) rfl ?_
      refine mj_cV rfl rfl rfl rfl rfl rfl (xm_isCell hb h x) ?_
      refine mj_b0 40 rfl ?_
      refine mj_brt (vB_0.mpr q) ?_
      refine mj_b0 40 rfl ?_
      exact mj_end rfl rfl trivial ⟨rfl, rfl⟩
  · refine ⟨nI (tKd b j), fun sc F S G Y M T C V A Z h => ?_, fun P U s g w m t c v a h => ?_⟩
    · refine mj_C.of rfl rfl rfl ?_
      refine mj_b0 40 rfl ?_
      refine mj_cV rfl rfl rfl rfl rfl rfl (x_has h (nI j)) ?_
      refine mj_b0 40 rfl ?_
      refine mj_brf (fun z => vB_0.mp z (okb hb hj)) ?_
      refine mj_b0 40 rfl ?_
      refine mj_cV rfl rfl rfl rfl rfl rfl (c_toldKind hb h hj) ?_
      refine mj_b0 40 rfl ?_
      exact mj_end rfl rfl trivial ⟨rfl, rfl⟩
    · refine mj_C.of rfl rfl rfl ?_
      refine mj_b0 40 rfl ?_
      refine mj_hq (h' := (fbP P (mdZ (nI 0, U.2) s g w m t c v a))) rfl ?_
      refine mj_cV rfl rfl rfl rfl rfl rfl (xm_isCell hb h (nI j)) ?_
      refine mj_b0 40 rfl ?_
      refine mj_brf (fun z => vB_0.mp z (okb hb hj)) ?_
      refine mj_b0 40 rfl ?_
      refine mj_cV rfl rfl rfl rfl rfl rfl (m_kindOf hb h hj) ?_
      refine mj_b0 40 rfl ?_
      exact mj_end rfl rfl trivial ⟨rfl, rfl⟩
end KS
