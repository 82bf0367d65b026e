/-! the numbers' facts in plain words; the further rings -/
theorem tb0 {b : Nat} (hb : b < 22) : 6 ≤ bp b ∧ bp b ≤ 10 ∧ br b ≤ 5 ∧ 1 ≤ bn b ∧ bn b ≤ 400 ∧ bRs b 0 = 0 ∧ bRs b (br b + 1) = bn b ∧ ∀ k, k ≤ br b → bRs b k < bRs b (k + 1) := by
  have h := kall_ok kB0_all b hb
  simp only [kB0, Bool.and_eq_true] at h
  obtain ⟨⟨h1, h2⟩, h3, ⟨h4, h5⟩, h6, h7, h8⟩ := h
  exact ⟨Nat.le_of_ble_eq_true h1, Nat.le_of_ble_eq_true h2, Nat.le_of_ble_eq_true h3, Nat.le_of_ble_eq_true h4, Nat.le_of_ble_eq_true h5, Nat.eq_of_beq_eq_true h6, Nat.eq_of_beq_eq_true h7, fun k hk => mj_blt (kall_ok h8 k (by omega))⟩
theorem tb_rs {b : Nat} (hb : b < 22) : ∀ (j k : Nat), k + j = br b + 1 → bRs b k ≤ bn b
  | 0, k, h => by rw [show k = br b + 1 by omega, (tb0 hb).2.2.2.2.2.2.1]; exact Nat.le_refl _
  | j + 1, k, h => by
    have h1 := tb_rs hb j (k + 1) (by omega)
    have h2 := (tb0 hb).2.2.2.2.2.2.2 k (by omega)
    omega
theorem tb_rs' {b k : Nat} (hb : b < 22) (hk : k ≤ br b + 1) : bRs b k ≤ bn b := tb_rs hb (br b + 1 - k) k (by omega)
theorem tb1 {b c : Nat} (hb : b < 22) (hc : c < bn b) : tRo b c ≤ br b ∧ bRs b (tRo b c) ≤ c ∧ c < bRs b (tRo b c + 1) ∧ (tFp b c = 1023 ∨ tFp b c < c) ∧ (tOp b c = 1023 ∨ tOp b c < c) ∧ ∀ s, s < bp b → tAt b c s = 1023 ∨ (tAt b c s < bn b ∧ tAt b c s ≠ c) := by
  have h := kall_ok (kall_ok kB1_all b hb) c hc
  simp only [kB1, Bool.and_eq_true, Bool.or_eq_true] at h
  obtain ⟨h1, h2, h3, h4, h5, h6⟩ := h
  refine ⟨Nat.le_of_ble_eq_true h1, Nat.le_of_ble_eq_true h2, mj_blt h3, h4.imp Nat.eq_of_beq_eq_true mj_blt, h5.imp Nat.eq_of_beq_eq_true mj_blt, fun s hs => ?_⟩
  have h7 := kall_ok h6 s hs
  simp only [Bool.and_eq_true, Bool.or_eq_true, Bool.not_eq_true'] at h7
  exact h7.imp Nat.eq_of_beq_eq_true (fun q => ⟨mj_blt q.1, fun e => by rw [e] at q; have := q.2; simp at this⟩)
theorem tb4 {b c : Nat} (hb : b < 22) (hc : c < bn b) (h1 : tRo b c ≠ 0) (h2 : tRo b c < br b) : tPar b c + 4 ≤ bp b ∧ (∀ i, i < bp b - 4 - tPar b c → tRo b (tFo b c + i) = tRo b c + 1 ∧ tFp b (tFo b c + i) = c ∧ tOp b (tFo b c + i) = 1023) ∧ tRo b (tFo b c + (bp b - 4 - tPar b c)) = tRo b c + 1 ∧ tFp b (tFo b c + (bp b - 4 - tPar b c)) = c ∧ tOp b (tFo b c + (bp b - 4 - tPar b c)) = tBeh b c ∧ tFo b c + (bp b - 4 - tPar b c) < bn b ∧ (if c + 1 < bRs b (tRo b c + 1) then tFo b (c + 1) else bRs b (tRo b c + 2)) = tFo b c + (bp b - 4 - tPar b c) + 1 := by
  have h := kall_ok (kall_ok kB4_all b hb) c hc
  simp only [kB4, Bool.and_eq_true, Bool.or_eq_true] at h
  rcases h with h | h | h
  · exact absurd (Nat.eq_of_beq_eq_true h) h1
  · have := Nat.le_of_ble_eq_true h
    omega
  · obtain ⟨a1, a2, a3, a4, a5, a6, a7⟩ := h
    refine ⟨Nat.le_of_ble_eq_true a1, fun i hi => ?_, Nat.eq_of_beq_eq_true a3, Nat.eq_of_beq_eq_true a4, Nat.eq_of_beq_eq_true a5, mj_blt a6, Nat.eq_of_beq_eq_true a7⟩
    have a := kall_ok a2 i hi
    simp only [Bool.and_eq_true] at a
    exact ⟨Nat.eq_of_beq_eq_true a.1, Nat.eq_of_beq_eq_true a.2.1, Nat.eq_of_beq_eq_true a.2.2⟩
theorem tb5 {b : Nat} (hb : b < 22) : tRo b 0 = 0 ∧ tFp b 0 = 1023 ∧ tOp b 0 = 1023 ∧ bRs b 1 = 1 ∧ (∀ s, s < bp b → tAt b 0 s = (if br b = 0 then 1023 else if s = 0 then 1 else bp b + 1 - s)) ∧ (∀ k, k < br b - 1 → tFo b (bRs b (k + 1)) = bRs b (k + 2) ∧ ∀ c, c < bn b → bRs b (k + 1) ≤ c → c < bRs b (k + 2) → tRo b c = k + 1) := by
  have h := kall_ok kB5_all b hb
  simp only [kB5, Bool.and_eq_true] at h
  obtain ⟨h1, h2, h3, h4, h5, h6⟩ := h
  refine ⟨Nat.eq_of_beq_eq_true h1, Nat.eq_of_beq_eq_true h2, Nat.eq_of_beq_eq_true h3, Nat.eq_of_beq_eq_true h4, fun s hs => Nat.eq_of_beq_eq_true (kall_ok h5 s hs), fun k hk => ?_⟩
  have h7 := kall_ok h6 k hk
  simp only [Bool.and_eq_true] at h7
  refine ⟨Nat.eq_of_beq_eq_true h7.1, fun c hc a1 a2 => ?_⟩
  have h8 := kall_ok h7.2 c hc
  simp only [Bool.or_eq_true, Bool.not_eq_true'] at h8
  rcases h8 with q | q
  · exfalso
    have e1 : Nat.ble (bRs b (k + 1)) c = true := Nat.ble_eq.mpr a1
    have e2 : Nat.blt c (bRs b (k + 2)) = true := Nat.ble_eq.mpr a2
    rw [e1, e2] at q
    cases q
  · exact Nat.eq_of_beq_eq_true q
theorem tFp_lt (b c : Nat) : tFp b c < 2 ^ 20 := Nat.lt_trans (dg_lt _ _) (by decide)
theorem tOp_lt (b c : Nat) : tOp b c < 2 ^ 20 := Nat.lt_trans (dg_lt _ _) (by decide)
theorem tFo_lt (b c : Nat) : tFo b c < 2 ^ 20 := Nat.lt_trans (dg_lt _ _) (by decide)
/-- the numbers that are read while it is built -/
theorem Pb.par {b n k m c : Nat} {G : fG} (h : Pb b n k m G) (hc : c < n) : iPar G c = tPar b c := by
  obtain ⟨-, h2, h3⟩ := h.2.2.2.1 c hc
  unfold iPar tPar
  rw [h2, h3]
  by_cases e : tOp b c = 1023
  · rw [if_pos e, if_pos ((nv_NO (tOp_lt b c)).mpr e)]
    by_cases e2 : tFp b c = 1023
    · rw [if_pos e2, if_pos ((nv_NO (tFp_lt b c)).mpr e2)]
    · rw [if_neg e2, if_neg (fun q => e2 ((nv_NO (tFp_lt b c)).mp q))]
  · rw [if_neg e, if_neg (fun q => e ((nv_NO (tOp_lt b c)).mp q))]
section GB2
variable {sc : mj_E} {F : Int32 × Int32} {S : fA × fA × fA} {Y : fY} {M : fM} {T : fT} {C : fC} {V : fV} {A : fA × Int32} {Z : mj_H} {d : Nat}
theorem x_own {b n k m c : Nat} {G : fG} (hb : b < 22) (h : Pb b n k m G) (hc : c < n) (hn : n ≤ 400) (hp : tPar b c + 4 ≤ bp b) : mj_C (d + 2) nX2_ownOf [.ref 6, .int (nI c)] (fbH sc F S G Y M T C V A Z) (some (.int (nI (bp b - 4 - tPar b c)))) (fbH sc F S G Y M T C V A Z) := by
  have h1 := c_ownOf (sc := sc) (F := F) (S := S) (G := G) (Y := Y) (M := M) (T := T) (C := C) (V := V) (A := A) (Z := Z) (d := d) (show c < 400 by omega)
  rw [h.par hc, h.1, pk_sub (by omega), pk_sub (by omega)] at h1
  exact h1
theorem x_behind {b n k m c : Nat} {G : fG} (hb : b < 22) (h : Pb b n k m G) (hc : c < n) (hcb : c < bn b) (hk : tRo b c + 1 ≤ k) : mj_C (d + 1) nX2_behind [.ref 6, .int (nI c)] (fbH sc F S G Y M T C V A Z) (some (.int (nI (tBeh b c)))) (fbH sc F S G Y M T C V A Z) := by
  have t0 := tb0 hb
  have t1 := tb1 hb hcb
  have h1 := c_behind (sc := sc) (F := F) (S := S) (G := G) (Y := Y) (M := M) (T := T) (C := C) (V := V) (A := A) (Z := Z) (d := d) (show c < 400 by omega) (show tRo b c < 6 by omega) (h.2.2.2.1 c hc).1
  rw [h.2.2.2.2.1 _ hk, h.2.2.2.2.1 _ (show tRo b c ≤ k by omega)] at h1
  have e : (if nI (bRs b (tRo b c + 1)) ≤ nI (c + 1) then nI (bRs b (tRo b c)) else nI (c + 1)) = nI (tBeh b c) := by
    have h2 := tb_rs' hb (show tRo b c + 1 ≤ br b + 1 by omega)
    unfold tBeh
    by_cases q : c + 1 < bRs b (tRo b c + 1)
    · rw [if_pos q, if_neg (nI_ge q (by omega))]
    · rw [if_neg q, if_pos (nI_le (by omega) (by omega))]
  rw [e] at h1
  exact h1
theorem l_own {b c k : Nat} {Q : Option Value → mj_H → Prop} (hb : b < 22) (hc : c < bn b) (h1 : tRo b c = k) (hk0 : k ≠ 0) (hk : k < br b) : ∀ (j i : Nat) (G : fG), j + i = bp b - 4 - tPar b c → Pb b (tFo b c + i) (k + 1) (c + 1) G → (∀ G', Pb b (tFo b c + (bp b - 4 - tPar b c)) (k + 1) (c + 1) G' → mj_R (mj_C (d + 2)) 2 false none iX2_addRing (58, [some (.ref 6), some (.int (nI (k + 1))), some (.int (nI c)), some (.int (nI (bp b - 4 - tPar b c))), some (.int (nI (bp b - 4 - tPar b c)))], [], fbH sc F S G' Y M T C V A Z) Q) → mj_R (mj_C (d + 2)) 2 false none iX2_addRing (38, [some (.ref 6), some (.int (nI (k + 1))), some (.int (nI c)), some (.int (nI (bp b - 4 - tPar b c))), some (.int (nI i))], [], fbH sc F S G Y M T C V A Z) Q
  | 0, i, G, hj, hP, kk => by
    have t0 := tb0 hb
    rw [Nat.zero_add] at hj
    refine mj_b0 40 rfl ?_
    refine mj_brt (nI_le (by omega) (by omega)) ?_
    rw [hj] at hP ⊢
    exact kk G hP
  | j + 1, i, G, hj, hP, kk => by
    have t0 := tb0 hb
    have t4 := tb4 hb hc (by omega) (by omega)
    obtain ⟨a1, a2, a3⟩ := t4.2.1 i (by omega)
    obtain ⟨G', hP', hcl⟩ := x_add (sc := sc) (F := F) (S := S) (Y := Y) (M := M) (T := T) (C := C) (V := V) (A := A) (Z := Z) (d := d + 1) hP (by omega)
    have t1 := tb1 hb hc
    rw [a1, a2, a3, h1, nv_is (show c ≠ 1023 by omega)] at hcl
    refine mj_b0 40 rfl ?_
    refine mj_brf (nI_ge (by omega) (by omega)) ?_
    refine mj_b0 40 rfl ?_
    refine mj_cV rfl rfl rfl rfl rfl rfl hcl ?_
    refine mj_b0 2 rfl ?_
    have ih := l_own (Q := Q) hb hc h1 hk0 hk j (i + 1) G' (by omega) hP' kk
    rw [← nI_add i 1] at ih
    exact ih
end GB2
