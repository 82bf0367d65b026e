/-! THE BOARD, built: the class -/
/-- a board's numbers stand in the class's rows -/
def Bd (b : Nat) (G : fG) : Prop := gsd G = nI (bp b) ∧ grg G = nI (br b) ∧ gcl G = nI (bn b) ∧ (∀ c, c < bn b → gro G c = nI (tRo b c) ∧ gfp G c = nv (tFp b c) ∧ gop G c = nv (tOp b c)) ∧ (∀ j, j ≤ br b + 1 → grs G j = nI (bRs b j)) ∧ (∀ c, c < bn b → ∀ s, s < bp b → gat G (c * 10 + s) = nv (tAt b c s)) ∧ (∀ c, c ≤ bn b → gbs G c = nI (tSt b c)) ∧ ∀ c, c < bn b → ∀ i, i < tDg b c → gbe G (tSt b c + i) = nI (tNb b c i)
theorem Pb.rs {b n k m : Nat} {ro fp op rs at_ : fA} {fo : fO} {sd rg cl : Int32} (h : Pb b n k m (ro, fp, op, rs, fo, at_, sd, rg, cl)) (x : Int32) (hx : x = nI (bRs b (k + 1))) : Pb b n (k + 1) m (ro, fp, op, upd rs (k + 1) x, fo, at_, sd, rg, cl) := by
  obtain ⟨h1, h2, h3, h4, h5, h6⟩ := h
  refine ⟨h1, h2, h3, h4, fun j hj => ?_, h6⟩
  show upd rs (k + 1) x j = _
  by_cases e : j = k + 1
  · subst e; rw [pk_us, hx]
  · rw [pk_un e]; exact h5 j (by omega)
theorem Pb.less {b n k m m' : Nat} {G : fG} (h : Pb b n k m G) (hm : m' ≤ m) : Pb b n k m' G := ⟨h.1, h.2.1, h.2.2.1, h.2.2.2.1, h.2.2.2.2.1, fun c a1 a2 => h.2.2.2.2.2 c a1 (by omega)⟩
theorem tb3 {b : Nat} (hb : b < 22) (hr : 0 < br b) : bRs b 2 = 1 + bp b := by
  have h := kall_ok kB3_all b hb
  simp only [kB3, Bool.and_eq_true, Bool.or_eq_true] at h
  rcases h with q | q
  · have := Nat.eq_of_beq_eq_true q
    omega
  · exact Nat.eq_of_beq_eq_true q.2.1
section GD
variable {sc : mj_E} {F : Int32 × Int32} {S : fA × fA × fA} {Y : fY} {M : fM} {T : fT} {C : fC} {V : fV} {A : fA × Int32} {Z : mj_H} {d : Nat}
theorem Pl.start {b c i : Nat} {ro fp op rs at_ f1 be bs : fA} {sd rg cl ls : Int32} (h : Pl b c c i (ro, fp, op, rs, (f1, be, bs, ls), at_, sd, rg, cl)) (x : Int32) (hx : x = nI (tSt b c)) : Pl b c (c + 1) i (ro, fp, op, rs, (f1, be, upd bs c x, ls), at_, sd, rg, cl) := by
  obtain ⟨h1, h2, h3, h4, h5⟩ := h
  refine ⟨h1, h2, fun c' a => ?_, h4, h5⟩
  show upd bs c x c' = _
  by_cases e : c' = c
  · subst e; rw [pk_us, hx]
  · rw [pk_un e]; exact h3 c' (by omega)
theorem l_listall {b : Nat} (hb : b < 22) {x1 x2 : Int32} : ∀ (j c : Nat) (G : fG), j + c = bn b → Pl b c c 0 G → mj_R (mj_C (d + 4)) 2 false none iX2_build (95, [some (.ref 6), some (.int x1), some (.int x2), some (.int (nI c))], [], fbH sc F S G Y M T C V A Z) (fun r h => r = none ∧ ∃ G', Bd b G' ∧ h = fbH sc F S G' Y M T C V A Z)
  | 0, c, G, hj, hP => by
    have t0 := tb0 hb
    rw [Nat.zero_add] at hj
    subst hj
    have e1 : (nI (bn b)).toNatClampNeg = bn b := nI_clamp (by omega)
    obtain ⟨ro, fp, op, rs, ⟨f1, be, bs, ls⟩, at_, sd, rg, cl⟩ := G
    have hcl : cl = nI (bn b) := hP.1.2.2.1
    subst hcl
    have hls : ls = nI (tSt b (bn b)) := hP.2.1
    refine mj_b0 40 rfl ?_
    refine mj_brt (by show nI (bn b) ≤ nI (bn b); exact nI_le (Nat.le_refl _) (by omega)) ?_
    refine mj_b1 40 rfl (nI_ix (show bn b < 401 by omega) (by omega)) ?_
    have hP2 := hP.start ls hls
    refine mj_end rfl rfl trivial ⟨rfl, (ro, fp, op, rs, (f1, be, upd bs (bn b) ls, ls), fun k => nv (tAt b (k / 10) (k % 10)), sd, rg, nI (bn b)), ⟨hP.1.1, hP.1.2.1, rfl, hP.1.2.2.2.1, hP.1.2.2.2.2.1, fun c hc s hs => ?_, fun c hc => hP2.2.2.1 c (by omega), hP2.2.2.2.1⟩, ?_⟩
    · show nv (tAt b ((c * 10 + s) / 10) ((c * 10 + s) % 10)) = _
      rw [show (c * 10 + s) / 10 = c by omega, show (c * 10 + s) % 10 = s by omega]
    · exact Eq.trans (b := fbH sc F S (ro, fp, op, rs, (f1, be, upd bs (nI (bn b)).toNatClampNeg ls, ls), at_, sd, rg, nI (bn b)) Y M T C V A Z) rfl (by rw [e1]; rfl)
  | j + 1, c, G, hj, hP => by
    have t0 := tb0 hb
    have e1 : (nI c).toNatClampNeg = c := nI_clamp (by omega)
    obtain ⟨ro, fp, op, rs, ⟨f1, be, bs, ls⟩, at_, sd, rg, cl⟩ := G
    have hcl : cl = nI (bn b) := hP.1.2.2.1
    have hls : ls = nI (tSt b c) := hP.2.1
    have hP2 := hP.start ls hls
    refine mj_b0 40 rfl ?_
    refine mj_brf (by show ¬ cl ≤ nI c; rw [hcl]; exact nI_ge (by omega) (by omega)) ?_
    obtain ⟨G1, hP1, hc1⟩ := x_round (sc := sc) (F := F) (S := S) (Y := Y) (M := M) (T := T) (C := C) (V := V) (A := A) (Z := Z) (d := d) hb (show c < bn b by omega) hP2
    refine mj_b1 40 rfl (nI_ix (show c < 401 by omega) (by omega)) ?_
    refine mj_hq (h' := fbH sc F S (ro, fp, op, rs, (f1, be, upd bs c ls, ls), at_, sd, rg, cl) Y M T C V A Z) (Eq.trans (b := fbH sc F S (ro, fp, op, rs, (f1, be, upd bs (nI c).toNatClampNeg ls, ls), at_, sd, rg, cl) Y M T C V A Z) rfl (by rw [e1])) ?_
    refine mj_cV rfl rfl rfl rfl rfl rfl hc1 ?_
    refine mj_b0 2 rfl ?_
    have ih := l_listall (x1 := x1) (x2 := x2) hb j (c + 1) G1 (by omega) hP1
    rw [← nI_add c 1] at ih
    exact ih
def mR (b q : Nat) : Nat := if q = 1 then 1 else bRs b (q - 1)
theorem l_rings {b : Nat} (hb : b < 22) : ∀ (j q : Nat) (G : fG), j + q = br b + 1 → 1 ≤ q → Pb b (bRs b q) q (mR b q) G → mj_R (mj_C (d + 4)) 2 false none iX2_build (43, [some (.ref 6), some (.int (nI (bp b))), some (.int (nI (br b))), some (.int (nI q))], [], fbH sc F S G Y M T C V A Z) (fun r h => r = none ∧ ∃ G', Bd b G' ∧ h = fbH sc F S G' Y M T C V A Z)
  | 0, q, G, hj, h1, hP => by
    have t0 := tb0 hb
    rw [Nat.zero_add] at hj
    subst hj
    refine mj_b0 40 rfl ?_
    refine mj_brt (nI_lt (by omega) (by omega)) ?_
    refine mj_b0 5 rfl ?_
    have hP2 : Pb b (bn b) (br b + 1) (bRs b (br b)) G := by
      rw [t0.2.2.2.2.2.2.1] at hP
      refine hP.less ?_
      unfold mR
      by_cases e : br b = 0
      · rw [if_pos (by omega), e, t0.2.2.2.2.2.1]; omega
      · rw [if_neg (by omega)]; exact Nat.le_refl _
    obtain ⟨ro, fp, op, rs, ⟨f1, be, bs, ls⟩, at_, sd, rg, cl⟩ := G
    refine mj_hq (h' := fbH sc F S (ro, fp, op, rs, (f1, be, bs, nI 0), at_, sd, rg, cl) Y M T C V A Z) rfl ?_
    exact l_listall hb (bn b) 0 _ (by omega) ⟨hP2, rfl, fun c' a => absurd a (Nat.not_lt_zero c'), fun c' a => absurd a (Nat.not_lt_zero c'), fun c' a => absurd a (Nat.not_lt_zero c')⟩
  | j + 1, q, G, hj, h1, hP => by
    have t0 := tb0 hb
    have e1 : (nI (q + 1)).toNatClampNeg = q + 1 := nI_clamp (by omega)
    have e2 : nI q + mj_kc 1 = nI (q + 1) := nI_add q 1
    have fin : ∀ G1, Pb b (bRs b (q + 1)) q (bRs b q) G1 → mj_R (mj_C (d + 4)) 2 false none iX2_build (70, [some (.ref 6), some (.int (nI (bp b))), some (.int (nI (br b))), some (.int (nI q))], [], fbH sc F S G1 Y M T C V A Z) (fun r h => r = none ∧ ∃ G', Bd b G' ∧ h = fbH sc F S G' Y M T C V A Z) := by
      intro G1 hP1
      obtain ⟨ro, fp, op, rs, fo, at_, sd, rg, cl⟩ := G1
      have hcl : cl = nI (bRs b (q + 1)) := hP1.2.2.1
      subst hcl
      refine mj_b1 8 rfl (by show vp_in (nI q + mj_kc 1) 7; rw [e2]; exact nI_ix (by omega) (by omega)) ?_
      refine mj_hq (h' := fbH sc F S (ro, fp, op, upd rs (q + 1) (nI (bRs b (q + 1))), fo, at_, sd, rg, nI (bRs b (q + 1))) Y M T C V A Z) (Eq.trans (b := fbH sc F S (ro, fp, op, upd rs (nI q + mj_kc 1).toNatClampNeg (nI (bRs b (q + 1))), fo, at_, sd, rg, nI (bRs b (q + 1))) Y M T C V A Z) rfl (by rw [e2, e1])) ?_
      refine mj_b0 2 rfl ?_
      rw [e2]
      refine l_rings hb j (q + 1) _ (by omega) (by omega) ?_
      have hm : mR b (q + 1) = bRs b q := by unfold mR; rw [if_neg (by omega)]; rfl
      rw [hm]
      exact hP1.rs _ rfl
    refine mj_b0 40 rfl ?_
    refine mj_brf (nI_nlt (by omega) (by omega)) ?_
    refine mj_b0 40 rfl ?_
    refine mj_brf (by show ¬ nI 5 < nI q; exact nI_nlt (by omega) (by omega)) ?_
    refine mj_b0 40 rfl ?_
    by_cases hq : q = 1
    · subst hq
      refine mj_brf (show ¬ ¬ nI 1 = nI 1 from fun z => z rfl) ?_
      refine mj_b0 40 rfl ?_
      have hP0 : Pb b 1 1 1 G := by
        have := (tb5 hb).2.2.2.1
        rw [this] at hP
        exact hP
      obtain ⟨G1, hP1, hc1⟩ := x_first (sc := sc) (F := F) (S := S) (Y := Y) (M := M) (T := T) (C := C) (V := V) (A := A) (Z := Z) (d := d + 2) hb (show 0 < br b by omega) hP0
      refine mj_cV rfl rfl rfl rfl rfl rfl hc1 ?_
      refine mj_b0 1 rfl ?_
      refine fin G1 ?_
      rw [tb3 hb (by omega), (tb5 hb).2.2.2.1]
      exact hP1
    · refine mj_brt (by show ¬ nI q = nI 1; exact fun z => hq ((nI_eq (by omega) (by omega)).mp z)) ?_
      refine mj_b0 40 rfl ?_
      obtain ⟨k, rfl⟩ : ∃ k, q = k + 1 := ⟨q - 1, by omega⟩
      have hm : mR b (k + 1) = bRs b k := by unfold mR; rw [if_neg hq]; rfl
      rw [hm] at hP
      obtain ⟨G1, hP1, hc1⟩ := x_ring (sc := sc) (F := F) (S := S) (Y := Y) (M := M) (T := T) (C := C) (V := V) (A := A) (Z := Z) (d := d + 1) hb (show k ≠ 0 by omega) (show k < br b by omega) hP
      refine mj_cV rfl rfl rfl rfl rfl rfl hc1 ?_
      exact fin G1 hP1
/-- Ground.build -/
theorem x_build {b : Nat} (hb : b < 22) (G : fG) : ∃ G', Bd b G' ∧ mj_C (d + 5) nX2_build [.ref 6, .int (nI (bp b)), .int (nI (br b))] (fbH sc F S G Y M T C V A Z) none (fbH sc F S G' Y M T C V A Z) := by
  have t0 := tb0 hb
  have t5 := tb5 hb
  obtain ⟨ro, fp, op, rs, fo, at_, sd, rg, cl⟩ := G
  obtain ⟨r, h', hc, rfl, G', hG, rfl⟩ := mj_C.ex (y := nX2_build) (av := [.ref 6, .int (nI (bp b)), .int (nI (br b))]) (h := fbH sc F S (ro, fp, op, rs, fo, at_, sd, rg, cl) Y M T C V A Z) (d := d + 4) (Q := fun r h => r = none ∧ ∃ G', Bd b G' ∧ h = fbH sc F S G' Y M T C V A Z) rfl rfl rfl (by
    refine mj_b1 40 rfl (nI_ix (n := 0) (N := 7) (by omega) (by omega)) ?_
    refine mj_hq (h' := fbH sc F S (ro, fp, op, upd rs 0 (nI 0), fo, at_, nI (bp b), nI (br b), nI 0) Y M T C V A Z) rfl ?_
    have hP0 : Pb b 0 0 1 (ro, fp, op, upd rs 0 (nI 0), fo, at_, nI (bp b), nI (br b), nI 0) := ⟨rfl, rfl, rfl, fun c a => absurd a (Nat.not_lt_zero c), fun j hj => by
        rw [show j = 0 by omega, t0.2.2.2.2.2.1]
        show upd rs 0 (nI 0) 0 = nI 0
        exact pk_us, fun c a1 a2 => by omega⟩
    obtain ⟨G1, hP1, hc1⟩ := x_add (sc := sc) (F := F) (S := S) (Y := Y) (M := M) (T := T) (C := C) (V := V) (A := A) (Z := Z) (d := d + 3) hP0 (by omega)
    rw [t5.1, t5.2.1, t5.2.2.1] at hc1
    refine mj_cV rfl rfl rfl rfl rfl rfl hc1 ?_
    obtain ⟨ro1, fp1, op1, rs1, fo1, at1, sd1, rg1, cl1⟩ := G1
    have hcl : cl1 = nI 1 := hP1.2.2.1
    subst hcl
    refine mj_b1 6 rfl (nI_ix (n := 1) (N := 7) (by omega) (by omega)) ?_
    refine mj_hq (h' := fbH sc F S (ro1, fp1, op1, upd rs1 1 (nI 1), fo1, at1, sd1, rg1, nI 1) Y M T C V A Z) rfl ?_
    refine mj_b0 2 rfl ?_
    refine l_rings hb (br b) 1 _ (by omega) (Nat.le_refl 1) ?_
    have hm : mR b 1 = 1 := rfl
    rw [hm, t5.2.2.2.1]
    exact hP1.rs _ (by rw [t5.2.2.2.1]))
  exact ⟨G', hG, hc⟩
end GD
