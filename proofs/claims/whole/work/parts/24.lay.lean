/-! the sides are laid as the numbers say -/
set_option maxRecDepth 100000 in
theorem kB6_all : (kall 22 fun b => kall (bn b - 1) (fun c => !Nat.beq (tFp b (c + 1)) 1023)) = true := by decide +kernel
theorem tb6 {b c : Nat} (hb : b < 22) (hc : c < bn b) (h1 : 1 ≤ c) : tFp b c ≠ 1023 := by
  have h := kall_ok (kall_ok kB6_all b hb) (c - 1) (by omega)
  rw [show c - 1 + 1 = c by omega] at h
  intro q
  rw [q] at h
  cases h
theorem tb2 {b c : Nat} (hb : b < 22) (hc : c < bn b) (h1 : 1 ≤ c) : tAt b c 0 = tFp b c ∧ (tPar b c = 2 → tAt b c 1 = tOp b c) ∧ tAt b c (tPar b c) = tBeh b c ∧ tAt b c (bp b - 1) = tAhe b c ∧ kCh b c (bp b - 2 - tPar b c) (tPar b c + 1) (if tRo b c < br b then tFo b c + (bp b - 4 - tPar b c) else 1023) = true := by
  have h := kall_ok (kall_ok kB2_all b hb) (c - 1) (by omega)
  rw [show c - 1 + 1 = c by omega] at h
  simp only [kB2, Bool.and_eq_true, Bool.or_eq_true, Bool.not_eq_true'] at h
  obtain ⟨a1, a2, a3, a4, a5⟩ := h
  refine ⟨Nat.eq_of_beq_eq_true a1, fun e => ?_, Nat.eq_of_beq_eq_true a3, Nat.eq_of_beq_eq_true a4, a5⟩
  rcases a2 with q | q
  · rw [e] at q; cases q
  · exact Nat.eq_of_beq_eq_true q
theorem tPar_12 {b c : Nat} (hb : b < 22) (hc : c < bn b) (h1 : 1 ≤ c) : tPar b c = 1 ∨ tPar b c = 2 := by
  unfold tPar
  by_cases e : tOp b c = 1023
  · rw [if_pos e, if_neg (tb6 hb hc h1)]; exact Or.inl rfl
  · rw [if_neg e]; exact Or.inr rfl
/-- sides laid: all of the cells below c, and those below s of c -/
def Pr (b c s : Nat) (G : fG) : Prop := Pb b (bn b) (br b + 1) (bRs b (br b)) G ∧ (∀ c', c' < c → ∀ s', s' < bp b → gat G (c' * 10 + s') = nv (tAt b c' s')) ∧ ∀ s', s' < s → gat G (c * 10 + s') = nv (tAt b c s')
section GL
variable {sc : mj_E} {F : Int32 × Int32} {S : fA × fA × fA} {Y : fY} {M : fM} {T : fT} {C : fA × fA} {V : fV} {A : fA × Int32} {Z : mj_H} {d : Nat}
theorem x_lay {b c s : Nat} {G : fG} (hb : b < 22) (h : Pr b c s G) (hc : c < bn b) (hs : s < bp b) {x : Int32} (hx : x = nv (tAt b c s)) : ∃ G', Pr b c (s + 1) G' ∧ mj_C (d + 3) nX2_laySide [.ref 6, .int (nI c), .int (nI s), .int x] (fbH sc F S G Y M T C V A Z) none (fbH sc F S G' Y M T C V A Z) := by
  have t0 := tb0 hb
  obtain ⟨ro, fp, op, rs, fo, at_, sd, rg, cl⟩ := G
  obtain ⟨hP, h2, h3⟩ := h
  refine ⟨(ro, fp, op, rs, fo, upd at_ (c * 10 + s) x, sd, rg, cl), ⟨hP, fun c' a1 s' a2 => ?_, fun s' a1 => ?_⟩, c_laySide hP.1 (by omega) hP.2.2.1 (by omega) hc hs x⟩
  · show upd at_ (c * 10 + s) x (c' * 10 + s') = _
    rw [pk_un (by omega)]
    exact h2 c' a1 s' a2
  · show upd at_ (c * 10 + s) x (c * 10 + s') = _
    by_cases e : s' = s
    · subst e
      rw [pk_us, hx]
    · rw [pk_un (by omega)]
      exact h3 s' (by omega)
theorem Pr.next {b c : Nat} {G : fG} (h : Pr b c (bp b) G) : Pr b (c + 1) 0 G := ⟨h.1, fun c' a1 s' a2 => by
    by_cases e : c' = c
    · subst e; exact h.2.2 s' a2
    · exact h.2.1 c' (by omega) s' a2, fun s' a => absurd a (Nat.not_lt_zero s')⟩
theorem x_ahead {b n k m c : Nat} {G : fG} (hb : b < 22) (h : Pb b n k m G) (hc : c < n) (hcb : c < bn b) (hk : tRo b c + 1 ≤ k) : mj_C (d + 1) nX2_ahead [.ref 6, .int (nI c)] (fbH sc F S G Y M T C V A Z) (some (.int (nI (tAhe b c)))) (fbH sc F S G Y M T C V A Z) := by
  have t0 := tb0 hb
  have t1 := tb1 hb hcb
  have h1 := c_ahead (sc := sc) (F := F) (S := S) (G := G) (Y := Y) (M := M) (T := T) (C := C) (V := V) (A := A) (Z := Z) (d := d) (show c < 400 by omega) (show tRo b c < 6 by omega) (h.2.2.2.1 c hc).1
  rw [h.2.2.2.2.1 _ hk, h.2.2.2.2.1 _ (show tRo b c ≤ k by omega)] at h1
  have e : (if nI c ≤ nI (bRs b (tRo b c)) then nI (bRs b (tRo b c + 1)) - nI 1 else nI c - nI 1) = nI (tAhe b c) := by
    have h2 := tb_rs' hb (show tRo b c + 1 ≤ br b + 1 by omega)
    unfold tAhe
    by_cases q : bRs b (tRo b c) < c
    · rw [if_pos q, if_neg (nI_ge q (by omega)), pk_sub (by omega)]
    · rw [if_neg q, if_pos (nI_le (by omega) (by omega)), pk_sub (by omega)]
  rw [e] at h1
  exact h1
/-- the CHILDREN's sides -/
theorem l_child {b c : Nat} {Q : Option Value → mj_H → Prop} (hb : b < 22) (hc : c < bn b) (h1 : 1 ≤ c) : ∀ (j s ch : Nat) (G : fG) (o2 : Int32), j + s = bp b - 1 → 1 ≤ s → kCh b c j s ch = true → Pr b c s G → (∀ G' x, Pr b c (bp b - 1) G' → mj_R (mj_C (d + 3)) 2 false none iX2_laySides (126, [some (.ref 6), some (.int (nI c)), some (.int o2), some (.int x), some (.int (nI (bp b - 1)))], [], fbH sc F S G' Y M T C V A Z) Q) → mj_R (mj_C (d + 3)) 2 false none iX2_laySides (82, [some (.ref 6), some (.int (nI c)), some (.int o2), some (.int (nv ch)), some (.int (nI s))], [], fbH sc F S G Y M T C V A Z) Q
  | 0, s, ch, G, o2, hj, hs1, hk, hP, kk => by
    have t0 := tb0 hb
    rw [Nat.zero_add] at hj
    refine mj_b0 40 rfl ?_
    refine mj_brt (by show gsd G - nI 1 ≤ nI s; rw [hP.1.1, pk_sub (by omega)]; exact nI_le (by omega) (by omega)) ?_
    rw [hj] at hP ⊢
    exact kk G _ hP
  | j + 1, s, ch, G, o2, hj, hs1, hk, hP, kk => by
    have t0 := tb0 hb
    rw [kCh, Bool.and_eq_true] at hk
    have hat : tAt b c s = ch := Nat.eq_of_beq_eq_true hk.1
    have t1 := (tb1 hb hc).2.2.2.2.2 s (by omega)
    rw [hat] at t1
    obtain ⟨G', hP', hcl⟩ := x_lay (sc := sc) (F := F) (S := S) (Y := Y) (M := M) (T := T) (C := C) (V := V) (A := A) (Z := Z) (d := d) hb hP hc (show s < bp b by omega) (x := nv ch) (by rw [hat])
    refine mj_b0 40 rfl ?_
    refine mj_brf (by show ¬ gsd G - nI 1 ≤ nI s; rw [hP.1.1, pk_sub (by omega)]; exact nI_ge (by omega) (by omega)) ?_
    refine mj_b0 40 rfl ?_
    refine mj_cV rfl rfl rfl rfl rfl rfl hcl ?_
    refine mj_b0 40 rfl ?_
    refine mj_cV rfl rfl rfl rfl rfl rfl (c_has (nv ch)) ?_
    refine mj_b0 40 rfl ?_
    by_cases e : ch = 1023
    · subst e
      refine mj_brt (vB_0.mpr (fun q : ¬ nv 1023 < 0 ∧ ¬ gcl G' ≤ nv 1023 => q.1 (by decide))) ?_
      refine mj_b0 4 rfl ?_
      have ih := l_child (Q := Q) hb hc h1 j (s + 1) 1023 G' o2 (by omega) (by omega) hk.2 hP' kk
      rw [← nI_add s 1] at ih
      exact ih
    · have hlt : ch < bn b := by rcases t1 with q | q; exact absurd q e; exact q.1
      have hro := (tb1 hb hlt).1
      refine mj_brf (fun q => vB_0.mp q ⟨by rw [nv_is e]; exact nI_pos (by omega), by rw [nv_is e]; show ¬ gcl G' ≤ nI ch; rw [hP'.1.2.2.1]; exact nI_ge hlt (by omega)⟩) ?_
      refine mj_b0 40 rfl ?_
      have hah := x_ahead (sc := sc) (F := F) (S := S) (Y := Y) (M := M) (T := T) (C := C) (V := V) (A := A) (Z := Z) (d := d + 2) hb hP'.1 hlt hlt (by omega)
      rw [← nv_is e] at hah
      refine mj_cV rfl rfl rfl rfl rfl rfl hah ?_
      refine mj_b0 4 rfl ?_
      have hk2 := hk.2
      rw [if_neg e] at hk2
      have ih := l_child (Q := Q) hb hc h1 j (s + 1) (tAhe b ch) G' o2 (by omega) (by omega) hk2 hP' kk
      rw [← nI_add s 1, nv_is (show tAhe b ch ≠ 1023 by
        unfold tAhe
        have := tb_rs' hb (show tRo b ch + 1 ≤ br b + 1 by omega)
        split <;> omega)] at ih
      exact ih
theorem l_lay3 {b c : Nat} (hb : b < 22) (hc : c < bn b) (h1 : 1 ≤ c) {G : fG} (hP : Pr b c (tPar b c) G) : mj_R (mj_C (d + 3)) 2 false none iX2_laySides (35, [some (.ref 6), some (.int (nI c)), some (.int (nI (tPar b c))), none, none], [], fbH sc F S G Y M T C V A Z) (fun r h => r = none ∧ ∃ G', Pr b c (bp b) G' ∧ h = fbH sc F S G' Y M T C V A Z) := by
  have t0 := tb0 hb
  have t1 := tb1 hb hc
  have t2 := tb2 hb hc h1
  have hp := tPar_12 hb hc h1
  have e1 : (nI c).toNatClampNeg = c := nI_clamp (by omega)
  have hbe : tBeh b c ≠ 1023 := by
    unfold tBeh
    have := tb_rs' hb (show tRo b c ≤ br b + 1 by omega)
    split <;> omega
  have hah : tAhe b c ≠ 1023 := by
    unfold tAhe
    have := tb_rs' hb (show tRo b c + 1 ≤ br b + 1 by omega)
    split <;> omega
  refine mj_b0 40 rfl ?_
  refine mj_cV rfl rfl rfl rfl rfl rfl (x_behind hb hP.1 hc hc (by omega)) ?_
  obtain ⟨G1, hP1, hc1⟩ := x_lay (sc := sc) (F := F) (S := S) (Y := Y) (M := M) (T := T) (C := C) (V := V) (A := A) (Z := Z) (d := d) hb hP hc (show tPar b c < bp b by omega) (x := nI (tBeh b c)) (by rw [t2.2.2.1, nv_is hbe])
  refine mj_cV rfl rfl rfl rfl rfl rfl hc1 ?_
  refine mj_b1 40 rfl (nI_ix (show c < 400 by omega) (by omega)) ?_
  rw [e1]
  have fin : ∀ (ch : Nat), kCh b c (bp b - 2 - tPar b c) (tPar b c + 1) ch = true → mj_R (mj_C (d + 3)) 2 false none iX2_laySides (76, [some (.ref 6), some (.int (nI c)), some (.int (nI (tPar b c))), none, none], [.int (nv ch)], fbH sc F S G1 Y M T C V A Z) (fun r h => r = none ∧ ∃ G', Pr b c (bp b) G' ∧ h = fbH sc F S G' Y M T C V A Z) := by
    intro ch hk
    refine mj_b0 5 rfl ?_
    have e2 : nI (tPar b c) + mj_kc 1 = nI (tPar b c + 1) := nI_add _ 1
    rw [e2]
    refine l_child (d := d) hb hc h1 (bp b - 2 - tPar b c) (tPar b c + 1) ch G1 (nI (tPar b c)) (by omega) (by omega) hk hP1 (fun G' x hP' => ?_)
    refine mj_b0 40 rfl ?_
    refine mj_cV rfl rfl rfl rfl rfl rfl (x_ahead hb hP'.1 hc hc (by omega)) ?_
    obtain ⟨G2, hP2, hc2⟩ := x_lay (sc := sc) (F := F) (S := S) (Y := Y) (M := M) (T := T) (C := C) (V := V) (A := A) (Z := Z) (d := d) hb hP' hc (show bp b - 1 < bp b by omega) (x := nI (tAhe b c)) (by rw [t2.2.2.2.1, nv_is hah])
    have e3 : gsd G' - mj_kc 1 = nI (bp b - 1) := by rw [hP'.1.1]; exact pk_sub (show 1 ≤ bp b by omega)
    rw [← e3] at hc2
    refine mj_cV rfl rfl rfl rfl rfl rfl hc2 ?_
    rw [show bp b - 1 + 1 = bp b by omega] at hP2
    exact mj_end rfl rfl trivial ⟨rfl, G2, hP2, rfl⟩
  by_cases hin : tRo b c < br b
  · have t4 := tb4 hb hc (by
      intro z
      have := tb5 hb
      have hz := t1.2.2.1
      rw [z] at hz
      have h5 : bRs b (0 + 1) = 1 := this.2.2.2.1
      rw [h5] at hz
      omega) hin
    have hm : c < bRs b (br b) := by
      have hz := t1.2.2.1
      have : ∀ (j k : Nat), k + j = br b → bRs b k ≤ bRs b (br b) := by
        intro j
        induction j with
        | zero => intro k hk; rw [show k = br b by omega]; exact Nat.le_refl _
        | succ j ih =>
          intro k hk
          have a := ih (k + 1) (by omega)
          have b2 := t0.2.2.2.2.2.2.2 k (by omega)
          omega
      have := this (br b - (tRo b c + 1)) (tRo b c + 1) (by omega)
      omega
    refine mj_brf (by show ¬ grg G1 ≤ gro G1 c; rw [hP1.1.2.1, (hP1.1.2.2.2.1 c hc).1]; exact nI_ge hin (by omega)) ?_
    refine mj_b1 40 rfl (nI_ix (show c < 400 by omega) (by omega)) ?_
    rw [e1]
    refine mj_cV rfl rfl rfl rfl rfl rfl (x_own hb hP1.1 hc (by omega) t4.1) ?_
    refine mj_b0 2 rfl ?_
    have hk := t2.2.2.2.2
    rw [if_pos hin] at hk
    have f2 := fin _ hk
    have e4 : gfo G1 c + nI (bp b - 4 - tPar b c) = nv (tFo b c + (bp b - 4 - tPar b c)) := by
      rw [hP1.1.2.2.2.2.2 c h1 hm, nI_add, nv_is (by omega)]
    rw [← e4] at f2
    exact f2
  · refine mj_brt (by show grg G1 ≤ gro G1 c; rw [hP1.1.2.1, (hP1.1.2.2.2.1 c hc).1]; exact nI_le (by omega) (by omega)) ?_
    refine mj_b0 1 rfl ?_
    have hk := t2.2.2.2.2
    rw [if_neg hin] at hk
    exact fin _ hk
theorem x_sides {b c : Nat} (hb : b < 22) (hc : c < bn b) (h1 : 1 ≤ c) {G : fG} (hP : Pr b c 0 G) : ∃ G', Pr b (c + 1) 0 G' ∧ mj_C (d + 4) nX2_laySides [.ref 6, .int (nI c)] (fbH sc F S G Y M T C V A Z) none (fbH sc F S G' Y M T C V A Z) := by
  have t0 := tb0 hb
  have t2 := tb2 hb hc h1
  have hp := tPar_12 hb hc h1
  have e1 : (nI c).toNatClampNeg = c := nI_clamp (by omega)
  obtain ⟨r, h', hcl, rfl, G', hG, rfl⟩ := mj_C.ex (y := nX2_laySides) (av := [.ref 6, .int (nI c)]) (h := fbH sc F S G Y M T C V A Z) (d := d + 3) (Q := fun r h => r = none ∧ ∃ G', Pr b c (bp b) G' ∧ h = fbH sc F S G' Y M T C V A Z) rfl rfl rfl (by
    refine mj_b0 40 rfl ?_
    have hpar := c_parentsOf (sc := sc) (F := F) (S := S) (G := G) (Y := Y) (M := M) (T := T) (C := C) (V := V) (A := A) (Z := Z) (d := d + 2) (show c < 400 by omega)
    rw [hP.1.par hc] at hpar
    refine mj_cV rfl rfl rfl rfl rfl rfl hpar ?_
    refine mj_b1 40 rfl (nI_ix (show c < 400 by omega) (by omega)) ?_
    rw [e1]
    obtain ⟨G1, hP1, hc1⟩ := x_lay (sc := sc) (F := F) (S := S) (Y := Y) (M := M) (T := T) (C := C) (V := V) (A := A) (Z := Z) (d := d) hb hP hc (show 0 < bp b by omega) (x := gfp G c) (by rw [(hP.1.2.2.2.1 c hc).2.1, t2.1])
    refine mj_cV rfl rfl rfl rfl rfl rfl hc1 ?_
    refine mj_b0 40 rfl ?_
    rcases hp with hp | hp
    · refine mj_brt (by rw [hp]; decide) ?_
      refine l_lay3 hb hc h1 ?_
      rw [hp]
      exact hP1
    · refine mj_brf (by rw [hp]; decide) ?_
      refine mj_b1 40 rfl (nI_ix (show c < 400 by omega) (by omega)) ?_
      rw [e1]
      obtain ⟨G2, hP2, hc2⟩ := x_lay (sc := sc) (F := F) (S := S) (Y := Y) (M := M) (T := T) (C := C) (V := V) (A := A) (Z := Z) (d := d) hb hP1 hc (show 1 < bp b by omega) (x := gop G1 c) (by rw [(hP1.1.2.2.2.1 c hc).2.2, t2.2.1 hp])
      refine mj_cV rfl rfl rfl rfl rfl rfl hc2 ?_
      refine l_lay3 hb hc h1 ?_
      rw [hp]
      exact hP2)
  exact ⟨G', hG.next, hcl⟩
end GL
