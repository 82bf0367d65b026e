/-! the lists are made as the numbers say -/
set_option maxRecDepth 100000 in
theorem kB6_all : (kall 22 fun b => kall (bn b - 1) (fun c => !Nat.beq (tFp b (c + 1)) 1023)) = true := by decide +kernel
theorem tb6 {b c : Nat} (hb : b < 22) (hc : c < bn b) (h1 : 1 ≤ c) : tFp b c ≠ 1023 := by
  have h := kall_ok (kall_ok kB6_all b hb) (c - 1) (by omega)
  rw [show c - 1 + 1 = c by omega] at h
  intro q
  rw [q] at h
  cases h
theorem tb2 {b c : Nat} (hb : b < 22) (hc : c < bn b) (h1 : 1 ≤ c) : tAt b c 0 = tFp b c ∧ (tPar b c = 2 → tAt b c 1 = tOp b c) ∧ tAt b c (tPar b c) = tBeh b c ∧ tAt b c (bp b - 1) = tAhe b c ∧ kCh b c (bp b - 2 - tPar b c) (tPar b c + 1) (if tRo b c < br b then tFo b c + (bp b - 4 - tPar b c) else 1023) = true := by
  have h := kall_ok (kall_ok kB2_all b hb) (c - 1) (by omega)
  rw [show c - 1 + 1 = c by omega] at h
  simp only [kB2, Bool.and_eq_true, Bool.or_eq_true, Bool.not_eq_true'] at h
  obtain ⟨a1, a2, a3, a4, a5⟩ := h
  refine ⟨Nat.eq_of_beq_eq_true a1, fun e => ?_, Nat.eq_of_beq_eq_true a3, Nat.eq_of_beq_eq_true a4, a5⟩
  rcases a2 with q | q
  · rw [e] at q; cases q
  · exact Nat.eq_of_beq_eq_true q
theorem tPar_12 {b c : Nat} (hb : b < 22) (hc : c < bn b) (h1 : 1 ≤ c) : tPar b c = 1 ∨ tPar b c = 2 := by
  unfold tPar
  by_cases e : tOp b c = 1023
  · rw [if_pos e, if_neg (tb6 hb hc h1)]; exact Or.inl rfl
  · rw [if_neg e]; exact Or.inr rfl
/-- how many CELLS are at a CELL's sides; where its row begins; the row -/
def tDg (b c : Nat) : Nat := if c = 0 then (if br b = 0 then 0 else bp b) else if tRo b c < br b then bp b else tPar b c + 2
def tSt (b c : Nat) : Nat := Nat.rec 0 (fun k ih => ih + tDg b k) c
theorem tSt_0 (b : Nat) : tSt b 0 = 0 := rfl
theorem tSt_s (b c : Nat) : tSt b (c + 1) = tSt b c + tDg b c := rfl
/-- the side of the i-th of the row -/
def sdx (b c i : Nat) : Nat := if i + 1 < tDg b c then i else bp b - 1
def tNb (b c i : Nat) : Nat := tAt b c (sdx b c i)
theorem tSt_mono {b c : Nat} : ∀ (j : Nat), tSt b c ≤ tSt b (c + j)
  | 0 => Nat.le_refl _
  | j + 1 => by
    have := tSt_mono (b := b) (c := c) j
    have e := tSt_s b (c + j)
    rw [show c + (j + 1) = c + j + 1 by omega]
    omega
theorem tSt_le {b c c' : Nat} (h : c ≤ c') : tSt b c ≤ tSt b c' := by
  have := tSt_mono (b := b) (c := c) (c' - c)
  rw [show c + (c' - c) = c' by omega] at this
  exact this
set_option maxRecDepth 100000 in
theorem kBs_all : (kall 22 fun b => Nat.ble (tSt b (bn b)) 2400) = true := by decide +kernel
theorem tbs {b : Nat} (hb : b < 22) : tSt b (bn b) ≤ 2400 := Nat.le_of_ble_eq_true (kall_ok kBs_all b hb)
def kBt (b c s : Nat) : Bool := if s + 1 < tDg b c ∨ (s + 1 = bp b ∧ 0 < tDg b c) then !Nat.beq (tAt b c s) 1023 else Nat.beq (tAt b c s) 1023
set_option maxRecDepth 100000 in
theorem kBt_all : (kall 22 fun b => kall (bn b) fun c => kall (bp b) fun s => kBt b c s) = true := by decide +kernel
theorem tbt {b c s : Nat} (hb : b < 22) (hc : c < bn b) (hs : s < bp b) : tAt b c s = 1023 ↔ ¬ (s + 1 < tDg b c ∨ (s + 1 = bp b ∧ 0 < tDg b c)) := by
  have h := kall_ok (kall_ok (kall_ok kBt_all b hb) c hc) s hs
  unfold kBt at h
  by_cases q : s + 1 < tDg b c ∨ (s + 1 = bp b ∧ 0 < tDg b c)
  · rw [if_pos q] at h
    refine ⟨fun e => ?_, fun e => absurd q e⟩
    rw [e] at h
    cases h
  · rw [if_neg q] at h
    exact ⟨fun _ => q, fun _ => Nat.eq_of_beq_eq_true h⟩
theorem tPar_2 (b c : Nat) : tPar b c ≤ 2 := by
  unfold tPar
  split
  · split <;> omega
  · omega
theorem tDg_le {b : Nat} (hb : b < 22) (c : Nat) : tDg b c ≤ bp b := by
  have t0 := tb0 hb
  have := tPar_2 b c
  unfold tDg
  split
  · split <;> omega
  · split <;> omega
theorem sdx_lt {b c i : Nat} (hb : b < 22) (_hi : i < tDg b c) : sdx b c i < bp b := by
  have t0 := tb0 hb
  have := tDg_le hb c
  unfold sdx
  split <;> omega
theorem tNb_ok {b c i : Nat} (hb : b < 22) (hc : c < bn b) (hi : i < tDg b c) : tNb b c i ≠ 1023 ∧ tNb b c i < bn b ∧ tNb b c i ≠ c := by
  have t0 := tb0 hb
  have hs := sdx_lt hb hi
  have h1 : tNb b c i ≠ 1023 := fun e => (tbt hb hc hs).mp e (by unfold sdx; split <;> omega)
  have h2 := ((tb1 hb hc).2.2.2.2.2 _ hs).resolve_left h1
  exact ⟨h1, h2⟩
/-- listed: the rows of the CELLS below c, and i of c; n beginnings -/
def Pl (b c n i : Nat) (G : fG) : Prop := Pb b (bn b) (br b + 1) (bRs b (br b)) G ∧ gls G = nI (tSt b c + i) ∧ (∀ c', c' < n → gbs G c' = nI (tSt b c')) ∧ (∀ c', c' < c → ∀ i', i' < tDg b c' → gbe G (tSt b c' + i') = nI (tNb b c' i')) ∧ ∀ i', i' < i → gbe G (tSt b c + i') = nI (tNb b c i')
section GL
variable {sc : mj_E} {F : Int32 × Int32} {S : fA × fA × fA} {Y : fY} {M : fM} {T : fT} {C : fC} {V : fV} {A : fA × Int32} {Z : mj_H} {d : Nat}
theorem x_list {b c n i : Nat} {G : fG} (hb : b < 22) (h : Pl b c n i G) (hc : c < bn b) (hi : i < tDg b c) {x : Int32} (hx : x = nI (tNb b c i)) : ∃ G', Pl b c n (i + 1) G' ∧ mj_C (d + 1) nX2_list [.ref 6, .int x] (fbH sc F S G Y M T C V A Z) none (fbH sc F S G' Y M T C V A Z) := by
  have t0 := tb0 hb
  have t1 := tbs hb
  have t2 := tSt_le (b := b) (show c + 1 ≤ bn b by omega)
  rw [tSt_s] at t2
  obtain ⟨ro, fp, op, rs, ⟨f1, be, bs, ls⟩, at_, sd, rg, cl⟩ := G
  obtain ⟨hP, h2, h3, h4, h5⟩ := h
  have h2' : ls = nI (tSt b c + i) := h2
  subst h2'
  refine ⟨(ro, fp, op, rs, (f1, upd be (tSt b c + i) x, bs, nI (tSt b c + i + 1)), at_, sd, rg, cl), ⟨hP, rfl, h3, fun c' a1 i' a2 => ?_, fun i' a1 => ?_⟩, c_list (by omega) x⟩
  · show upd be (tSt b c + i) x (tSt b c' + i') = _
    have t3 := tSt_le (b := b) (show c' + 1 ≤ c by omega)
    rw [tSt_s] at t3
    rw [pk_un (by omega)]
    exact h4 c' a1 i' a2
  · show upd be (tSt b c + i) x (tSt b c + i') = _
    by_cases e : i' = i
    · subst e
      rw [pk_us, hx]
    · rw [pk_un (by omega)]
      exact h5 i' (by omega)
theorem Pl.next {b c n : Nat} {G : fG} (h : Pl b c n (tDg b c) G) : Pl b (c + 1) n 0 G := ⟨h.1, h.2.1, h.2.2.1, fun c' a1 i' a2 => by
    by_cases e : c' = c
    · subst e; exact h.2.2.2.2 i' a2
    · exact h.2.2.2.1 c' (by omega) i' a2, fun s' a => absurd a (Nat.not_lt_zero s')⟩
theorem x_ahead {b n k m c : Nat} {G : fG} (hb : b < 22) (h : Pb b n k m G) (hc : c < n) (hcb : c < bn b) (hk : tRo b c + 1 ≤ k) : mj_C (d + 1) nX2_ahead [.ref 6, .int (nI c)] (fbH sc F S G Y M T C V A Z) (some (.int (nI (tAhe b c)))) (fbH sc F S G Y M T C V A Z) := by
  have t0 := tb0 hb
  have t1 := tb1 hb hcb
  have h1 := c_ahead (sc := sc) (F := F) (S := S) (G := G) (Y := Y) (M := M) (T := T) (C := C) (V := V) (A := A) (Z := Z) (d := d) (show c < 400 by omega) (show tRo b c < 6 by omega) (h.2.2.2.1 c hc).1
  rw [h.2.2.2.2.1 _ hk, h.2.2.2.2.1 _ (show tRo b c ≤ k by omega)] at h1
  have e : (if nI c ≤ nI (bRs b (tRo b c)) then nI (bRs b (tRo b c + 1)) - nI 1 else nI c - nI 1) = nI (tAhe b c) := by
    have h2 := tb_rs' hb (show tRo b c + 1 ≤ br b + 1 by omega)
    unfold tAhe
    by_cases q : bRs b (tRo b c) < c
    · rw [if_pos q, if_neg (nI_ge q (by omega)), pk_sub (by omega)]
    · rw [if_neg q, if_pos (nI_le (by omega) (by omega)), pk_sub (by omega)]
  rw [e] at h1
  exact h1
/-- CHILDREN -/
theorem tDg_in {b c : Nat} (h1 : 1 ≤ c) (hin : tRo b c < br b) : tDg b c = bp b := by
  unfold tDg
  rw [if_neg (by omega), if_pos hin]
theorem tDg_rim {b c : Nat} (h1 : 1 ≤ c) (hin : ¬ tRo b c < br b) : tDg b c = tPar b c + 2 := by
  unfold tDg
  rw [if_neg (by omega), if_neg hin]
theorem tNb_at {b c i : Nat} (hi : i + 1 < tDg b c) : tNb b c i = tAt b c i := by
  unfold tNb sdx
  rw [if_pos hi]
theorem tNb_last {b c i : Nat} (hi : ¬ i + 1 < tDg b c) : tNb b c i = tAt b c (bp b - 1) := by
  unfold tNb sdx
  rw [if_neg hi]
theorem l_child {b c n : Nat} (hb : b < 22) (hc : c < bn b) (h1 : 1 ≤ c) (hin : tRo b c < br b) (hp : tPar b c + 4 ≤ bp b) : ∀ (j i ch : Nat) (G : fG), j + i = bp b - 2 - tPar b c → kCh b c j (tPar b c + 1 + i) ch = true → Pl b c n (tPar b c + 1 + i) G → mj_R (mj_C (d + 2)) 2 false none iX2_listChildren (18, [some (.ref 6), some (.int (nI c)), some (.int (nI (bp b - 4 - tPar b c))), some (.int (nI ch)), some (.int (nI i))], [], fbH sc F S G Y M T C V A Z) (fun r h => r = none ∧ ∃ G', Pl b c n (bp b - 1) G' ∧ h = fbH sc F S G' Y M T C V A Z)
  | 0, i, ch, G, hj, hk, hP => by
    have t0 := tb0 hb
    have e1 : nI (bp b - 4 - tPar b c) + mj_kc 2 = nI (bp b - 4 - tPar b c + 2) := nI_add _ 2
    refine mj_b0 40 rfl ?_
    rw [e1]
    refine mj_brt (nI_le (by omega) (by omega)) ?_
    rw [show tPar b c + 1 + i = bp b - 1 by omega] at hP
    exact mj_end rfl rfl trivial ⟨rfl, G, hP, rfl⟩
  | j + 1, i, ch, G, hj, hk, hP => by
    have t0 := tb0 hb
    have e1 : nI (bp b - 4 - tPar b c) + mj_kc 2 = nI (bp b - 4 - tPar b c + 2) := nI_add _ 2
    have hd := tDg_in h1 hin
    rw [kCh, Bool.and_eq_true] at hk
    have hat : tAt b c (tPar b c + 1 + i) = ch := Nat.eq_of_beq_eq_true hk.1
    have hnb : tNb b c (tPar b c + 1 + i) = ch := by rw [tNb_at (by omega), hat]
    have hok := tNb_ok hb hc (show tPar b c + 1 + i < tDg b c by omega)
    rw [hnb] at hok
    obtain ⟨G', hP', hcl⟩ := x_list (sc := sc) (F := F) (S := S) (Y := Y) (M := M) (T := T) (C := C) (V := V) (A := A) (Z := Z) (d := d + 1) hb hP hc (by omega) (x := nI ch) (by rw [hnb])
    refine mj_b0 40 rfl ?_
    rw [e1]
    refine mj_brf (nI_ge (by omega) (by omega)) ?_
    refine mj_b0 40 rfl ?_
    refine mj_cV rfl rfl rfl rfl rfl rfl hcl ?_
    refine mj_b0 40 rfl ?_
    have hro := (tb1 hb hok.2.1).1
    refine mj_cV rfl rfl rfl rfl rfl rfl (x_ahead (d := d + 1) hb hP'.1 hok.2.1 hok.2.1 (by omega)) ?_
    refine mj_b0 3 rfl ?_
    have hk2 := hk.2
    rw [if_neg hok.1] at hk2
    have ih := l_child hb hc h1 hin hp j (i + 1) (tAhe b ch) G' (by omega) hk2 hP'
    rw [← nI_add i 1] at ih
    exact ih
theorem x_children {b c n : Nat} (hb : b < 22) (hc : c < bn b) (h1 : 1 ≤ c) (hin : tRo b c < br b) {G : fG} (hP : Pl b c n (tPar b c + 1) G) : ∃ G', Pl b c n (bp b - 1) G' ∧ mj_C (d + 3) nX2_listChildren [.ref 6, .int (nI c)] (fbH sc F S G Y M T C V A Z) none (fbH sc F S G' Y M T C V A Z) := by
  have t0 := tb0 hb
  have t1 := tb1 hb hc
  have t2 := tb2 hb hc h1
  have e1 : (nI c).toNatClampNeg = c := nI_clamp (by omega)
  have hz : tRo b c ≠ 0 := by
    intro z
    have := t1.2.2.1
    rw [z, (tb5 hb).2.2.2.1] at this
    omega
  have t4 := tb4 hb hc hz hin
  have hm : c < bRs b (br b) := by
    have hz := t1.2.2.1
    have : ∀ (j k : Nat), k + j = br b → bRs b k ≤ bRs b (br b) := by
      intro j
      induction j with
      | zero => intro k hk; rw [show k = br b by omega]; exact Nat.le_refl _
      | succ j ih =>
        intro k hk
        have a := ih (k + 1) (by omega)
        have b2 := t0.2.2.2.2.2.2.2 k (by omega)
        omega
    have := this (br b - (tRo b c + 1)) (tRo b c + 1) (by omega)
    omega
  obtain ⟨r, h', hcl, rfl, G', hG, rfl⟩ := mj_C.ex (y := nX2_listChildren) (av := [.ref 6, .int (nI c)]) (h := fbH sc F S G Y M T C V A Z) (d := d + 2) (Q := fun r h => r = none ∧ ∃ G', Pl b c n (bp b - 1) G' ∧ h = fbH sc F S G' Y M T C V A Z) rfl rfl rfl (by
    refine mj_b0 40 rfl ?_
    refine mj_cV rfl rfl rfl rfl rfl rfl (x_own (d := d) hb hP.1 hc (by omega) t4.1) ?_
    refine mj_b1 10 rfl (nI_ix (show c < 400 by omega) (by omega)) ?_
    rw [e1]
    have e4 : gfo G c + nI (bp b - 4 - tPar b c) = nI (tFo b c + (bp b - 4 - tPar b c)) := by
      rw [hP.1.2.2.2.2.2 c h1 hm, nI_add]
    have e5 : (G.2.2.2.2.1.1 c + nI (bp b - 4 - tPar b c)) = nI (tFo b c + (bp b - 4 - tPar b c)) := e4
    rw [e5]
    have hk := t2.2.2.2.2
    rw [if_pos hin] at hk
    exact l_child (d := d) hb hc h1 hin t4.1 (bp b - 2 - tPar b c) 0 _ G (by omega) hk hP)
  exact ⟨G', hG, hcl⟩
/-- one CELL's row, but the first's -/
theorem l_round {b c n : Nat} (hb : b < 22) (hc : c < bn b) (h1 : 1 ≤ c) {G : fG} (hP : Pl b c n (tPar b c) G) : mj_R (mj_C (d + 3)) 2 false none iX2_listRound (38, [some (.ref 6), some (.int (nI c))], [], fbH sc F S G Y M T C V A Z) (fun r h => r = none ∧ ∃ G', Pl b c n (tDg b c) G' ∧ h = fbH sc F S G' Y M T C V A Z) := by
  have t0 := tb0 hb
  have t1 := tb1 hb hc
  have t2 := tb2 hb hc h1
  have hp := tPar_12 hb hc h1
  have e1 : (nI c).toNatClampNeg = c := nI_clamp (by omega)
  have hd : tPar b c + 2 ≤ tDg b c := by
    by_cases hin : tRo b c < br b
    · rw [tDg_in h1 hin]; omega
    · rw [tDg_rim h1 hin]; exact Nat.le_refl _
  refine mj_b0 40 rfl ?_
  refine mj_cV rfl rfl rfl rfl rfl rfl (x_behind hb hP.1 hc hc (by omega)) ?_
  obtain ⟨G1, hP1, hc1⟩ := x_list (sc := sc) (F := F) (S := S) (Y := Y) (M := M) (T := T) (C := C) (V := V) (A := A) (Z := Z) (d := d + 2) hb hP hc (by omega) (x := nI (tBeh b c)) (by rw [tNb_at (by omega), t2.2.2.1])
  refine mj_cV rfl rfl rfl rfl rfl rfl hc1 ?_
  refine mj_b1 40 rfl (nI_ix (show c < 400 by omega) (by omega)) ?_
  rw [e1]
  have fin : ∀ G2, Pl b c n (tDg b c - 1) G2 → mj_R (mj_C (d + 3)) 2 false none iX2_listRound (65, [some (.ref 6), some (.int (nI c))], [], fbH sc F S G2 Y M T C V A Z) (fun r h => r = none ∧ ∃ G', Pl b c n (tDg b c) G' ∧ h = fbH sc F S G' Y M T C V A Z) := by
    intro G2 hP2
    refine mj_b0 40 rfl ?_
    refine mj_cV rfl rfl rfl rfl rfl rfl (x_ahead (d := d + 2) hb hP2.1 hc hc (by omega)) ?_
    obtain ⟨G3, hP3, hc3⟩ := x_list (sc := sc) (F := F) (S := S) (Y := Y) (M := M) (T := T) (C := C) (V := V) (A := A) (Z := Z) (d := d + 2) hb hP2 hc (by omega) (x := nI (tAhe b c)) (by rw [tNb_last (by omega), t2.2.2.2.1])
    refine mj_cV rfl rfl rfl rfl rfl rfl hc3 ?_
    rw [show tDg b c - 1 + 1 = tDg b c by omega] at hP3
    exact mj_end rfl rfl trivial ⟨rfl, G3, hP3, rfl⟩
  by_cases hin : tRo b c < br b
  · refine mj_brf (by show ¬ grg G1 ≤ gro G1 c; rw [hP1.1.2.1, (hP1.1.2.2.2.1 c hc).1]; exact nI_ge hin (by omega)) ?_
    obtain ⟨G2, hP2, hc2⟩ := x_children (sc := sc) (F := F) (S := S) (Y := Y) (M := M) (T := T) (C := C) (V := V) (A := A) (Z := Z) (d := d) hb hc h1 hin hP1
    refine mj_b0 40 rfl ?_
    refine mj_cV rfl rfl rfl rfl rfl rfl hc2 ?_
    exact fin G2 (by rw [tDg_in h1 hin]; exact hP2)
  · refine mj_brt (by show grg G1 ≤ gro G1 c; rw [hP1.1.2.1, (hP1.1.2.2.2.1 c hc).1]; exact nI_le (by omega) (by omega)) ?_
    exact fin G1 (by rw [tDg_rim h1 hin]; exact hP1)
theorem l_row0 {b n : Nat} (hb : b < 22) : ∀ (j s : Nat) (G : fG), j + s = tDg b 0 → Pl b 0 n s G → mj_R (mj_C (d + 1)) 2 false none iX2_listRoundTheFirst (2, [some (.ref 6), some (.int (nI s))], [], fbH sc F S G Y M T C V A Z) (fun r h => r = none ∧ ∃ G', Pl b 0 n (tDg b 0) G' ∧ h = fbH sc F S G' Y M T C V A Z)
  | 0, s, G, hj, hP => by
    have t0 := tb0 hb
    rw [Nat.zero_add] at hj
    subst hj
    refine mj_b0 40 rfl ?_
    by_cases hr : br b = 0
    · have hd : tDg b 0 = 0 := by unfold tDg; rw [if_pos rfl, if_pos hr]
      refine mj_brf (by show ¬ gsd G ≤ nI (tDg b 0); rw [hP.1.1, hd]; exact nI_ge (by omega) (by omega)) ?_
      refine mj_b0 40 rfl ?_
      refine mj_brt (by show grg G ≤ 0; rw [hP.1.2.1, hr]; decide) ?_
      exact mj_end rfl rfl trivial ⟨rfl, G, hP, rfl⟩
    · have hd : tDg b 0 = bp b := by unfold tDg; rw [if_pos rfl, if_neg hr]
      refine mj_brt (by show gsd G ≤ nI (tDg b 0); rw [hP.1.1, hd]; exact nI_le (Nat.le_refl _) (by omega)) ?_
      exact mj_end rfl rfl trivial ⟨rfl, G, hP, rfl⟩
  | j + 1, s, G, hj, hP => by
    have t0 := tb0 hb
    have hr : br b ≠ 0 := by
      intro hr
      have hd : tDg b 0 = 0 := by unfold tDg; rw [if_pos rfl, if_pos hr]
      omega
    have hd : tDg b 0 = bp b := by unfold tDg; rw [if_pos rfl, if_neg hr]
    have t5 := (tb5 hb).2.2.2.2.1 s (by omega)
    rw [if_neg hr] at t5
    have hnb : tNb b 0 s = tAt b 0 s := by
      by_cases q : s + 1 < tDg b 0
      · exact tNb_at q
      · rw [tNb_last q, show bp b - 1 = s by omega]
    refine mj_b0 40 rfl ?_
    refine mj_brf (by show ¬ gsd G ≤ nI s; rw [hP.1.1]; exact nI_ge (by omega) (by omega)) ?_
    refine mj_b0 40 rfl ?_
    refine mj_brf (by show ¬ grg G ≤ 0; rw [hP.1.2.1]; exact nI_nle (by omega) (by omega)) ?_
    refine mj_b0 40 rfl ?_
    have fin : ∀ x : Int32, x = nI (if s = 0 then 1 else bp b + 1 - s) → mj_R (mj_C (d + 1)) 2 false none iX2_listRoundTheFirst (34, [some (.ref 6), some (.int (nI s))], [.int x, .ref 6], fbH sc F S G Y M T C V A Z) (fun r h => r = none ∧ ∃ G', Pl b 0 n (tDg b 0) G' ∧ h = fbH sc F S G' Y M T C V A Z) := by
      intro x hx
      obtain ⟨G1, hP1, hc1⟩ := x_list (sc := sc) (F := F) (S := S) (Y := Y) (M := M) (T := T) (C := C) (V := V) (A := A) (Z := Z) (d := d) hb hP (show 0 < bn b by omega) (show s < tDg b 0 by omega) (x := x) (by rw [hnb, t5, hx])
      refine mj_cV rfl rfl rfl rfl rfl rfl hc1 ?_
      refine mj_b0 2 rfl ?_
      have ih := l_row0 hb j (s + 1) G1 (by omega) hP1
      rw [← nI_add s 1] at ih
      exact ih
    by_cases hs : s = 0
    · subst hs
      refine mj_brf (show ¬ ¬ nI 0 = 0 from fun q => q rfl) ?_
      refine mj_b0 2 rfl ?_
      exact fin _ rfl
    · refine mj_brt (nI_ne0 (by omega) (by omega)) ?_
      refine mj_b0 6 rfl ?_
      refine fin _ ?_
      show gsd G + nI 1 - nI s = _
      rw [hP.1.1, nI_add, pk_sub (by omega), if_neg hs]
theorem x_round {b c n : Nat} (hb : b < 22) (hc : c < bn b) {G : fG} (hP : Pl b c n 0 G) : ∃ G', Pl b (c + 1) n 0 G' ∧ mj_C (d + 4) nX2_listRound [.ref 6, .int (nI c)] (fbH sc F S G Y M T C V A Z) none (fbH sc F S G' Y M T C V A Z) := by
  have t0 := tb0 hb
  have e1 : (nI c).toNatClampNeg = c := nI_clamp (by omega)
  obtain ⟨r, h', hcl, rfl, G', hG, rfl⟩ := mj_C.ex (y := nX2_listRound) (av := [.ref 6, .int (nI c)]) (h := fbH sc F S G Y M T C V A Z) (d := d + 3) (Q := fun r h => r = none ∧ ∃ G', Pl b c n (tDg b c) G' ∧ h = fbH sc F S G' Y M T C V A Z) rfl rfl rfl (by
    refine mj_b0 40 rfl ?_
    by_cases h0 : c = 0
    · subst h0
      refine mj_brf (show ¬ ¬ nI 0 = 0 from fun q => q rfl) ?_
      refine mj_b0 40 rfl ?_
      obtain ⟨r, h', hc1, rfl, G1, hG1, rfl⟩ := mj_C.ex (y := nX2_listRoundTheFirst) (av := [.ref 6]) rfl rfl rfl (mj_b0 2 rfl (l_row0 (sc := sc) (F := F) (S := S) (Y := Y) (M := M) (T := T) (C := C) (V := V) (A := A) (Z := Z) (d := d + 1) (n := n) hb (tDg b 0) 0 G (by omega) hP))
      refine mj_cV rfl rfl rfl rfl rfl rfl hc1 ?_
      exact mj_end rfl rfl trivial ⟨rfl, G1, hG1, rfl⟩
    · have h1 : 1 ≤ c := by omega
      have t2 := tb2 hb hc h1
      have hp := tPar_12 hb hc h1
      have hd : tPar b c + 2 ≤ tDg b c := by
        by_cases hin : tRo b c < br b
        · rw [tDg_in h1 hin]; omega
        · rw [tDg_rim h1 hin]; exact Nat.le_refl _
      refine mj_brt (nI_ne0 (by omega) (by omega)) ?_
      refine mj_b1 40 rfl (nI_ix (show c < 400 by omega) (by omega)) ?_
      rw [e1]
      obtain ⟨G1, hP1, hc1⟩ := x_list (sc := sc) (F := F) (S := S) (Y := Y) (M := M) (T := T) (C := C) (V := V) (A := A) (Z := Z) (d := d + 2) hb hP hc (by omega) (x := gfp G c) (by rw [(hP.1.2.2.2.1 c hc).2.1, tNb_at (by omega), t2.1, nv_is (tb6 hb hc h1)])
      refine mj_cV rfl rfl rfl rfl rfl rfl hc1 ?_
      have hpar := c_parentsOf (sc := sc) (F := F) (S := S) (G := G1) (Y := Y) (M := M) (T := T) (C := C) (V := V) (A := A) (Z := Z) (d := d + 2) (show c < 400 by omega)
      rw [hP1.1.par hc] at hpar
      refine mj_b0 40 rfl ?_
      refine mj_cV rfl rfl rfl rfl rfl rfl hpar ?_
      refine mj_b0 40 rfl ?_
      rcases hp with hp | hp
      · refine mj_brt (by rw [hp]; decide) ?_
        refine l_round hb hc h1 ?_
        rw [hp]
        exact hP1
      · refine mj_brf (by rw [hp]; decide) ?_
        refine mj_b1 40 rfl (nI_ix (show c < 400 by omega) (by omega)) ?_
        rw [e1]
        have hop : tOp b c ≠ 1023 := by
          intro q
          unfold tPar at hp
          rw [if_pos q] at hp
          revert hp
          split <;> omega
        obtain ⟨G2, hP2, hc2⟩ := x_list (sc := sc) (F := F) (S := S) (Y := Y) (M := M) (T := T) (C := C) (V := V) (A := A) (Z := Z) (d := d + 2) hb hP1 hc (by omega) (x := gop G1 c) (by rw [(hP1.1.2.2.2.1 c hc).2.2, tNb_at (by omega), t2.2.1 hp, nv_is hop])
        refine mj_cV rfl rfl rfl rfl rfl rfl hc2 ?_
        refine l_round hb hc h1 ?_
        rw [hp]
        exact hP2)
  exact ⟨G', hG.next, hcl⟩
end GL
