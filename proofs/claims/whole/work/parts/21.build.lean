/-! THE BOARD is built as the numbers say: the class -/
def kB3 (b : Nat) : Bool := Nat.beq (br b) 0 || (Nat.beq (bRs b 1) 1 && (Nat.beq (bRs b 2) (1 + bp b) && (kall (bp b) fun i => Nat.beq (tRo b (1 + i)) 1 && (Nat.beq (tFp b (1 + i)) 0 && Nat.beq (tOp b (1 + i)) 1023))))
def kB4 (b c : Nat) : Bool := Nat.beq (tRo b c) 0 || (Nat.ble (br b) (tRo b c) || (Nat.ble (tPar b c + 4) (bp b) && ((kall (bp b - 4 - tPar b c) fun i => Nat.beq (tRo b (tFo b c + i)) (tRo b c + 1) && (Nat.beq (tFp b (tFo b c + i)) c && Nat.beq (tOp b (tFo b c + i)) 1023)) && (Nat.beq (tRo b (tFo b c + (bp b - 4 - tPar b c))) (tRo b c + 1) && (Nat.beq (tFp b (tFo b c + (bp b - 4 - tPar b c))) c && (Nat.beq (tOp b (tFo b c + (bp b - 4 - tPar b c))) (tBeh b c) && (Nat.blt (tFo b c + (bp b - 4 - tPar b c)) (bn b) && (Nat.beq (if c + 1 < bRs b (tRo b c + 1) then tFo b (c + 1) else bRs b (tRo b c + 2)) (tFo b c + (bp b - 4 - tPar b c) + 1)))))))))
set_option maxRecDepth 100000 in
theorem kB3_all : kall 22 kB3 = true := by decide +kernel
set_option maxRecDepth 100000 in
theorem kB4_all : (kall 22 fun b => kall (bn b) (kB4 b)) = true := by decide +kernel
def kB5 (b : Nat) : Bool := Nat.beq (tRo b 0) 0 && (Nat.beq (tFp b 0) 1023 && (Nat.beq (tOp b 0) 1023 && (Nat.beq (bRs b 1) 1 && ((kall (bp b) fun s => Nat.beq (tAt b 0 s) (if br b = 0 then 1023 else if s = 0 then 1 else bp b + 1 - s)) && (kall (br b - 1) fun k => Nat.beq (tFo b (bRs b (k + 1))) (bRs b (k + 2)) && (kall (bn b) fun c => !(Nat.ble (bRs b (k + 1)) c && Nat.blt c (bRs b (k + 2))) || Nat.beq (tRo b c) (k + 1)))))))
set_option maxRecDepth 100000 in
theorem kB5_all : kall 22 kB5 = true := by decide +kernel
/-- so far built: n cells, the rings' starts up to k, the OWN children's starts below m -/
def Pb (b n k m : Nat) (G : fG) : Prop := gsd G = nI (bp b) ∧ grg G = nI (br b) ∧ gcl G = nI n ∧ (∀ c, c < n → gro G c = nI (tRo b c) ∧ gfp G c = nv (tFp b c) ∧ gop G c = nv (tOp b c)) ∧ (∀ j, j ≤ k → grs G j = nI (bRs b j)) ∧ (∀ c, 1 ≤ c → c < m → gfo G c = nI (tFo b c))
theorem nv_no : nv 1023 = NO := rfl
theorem nv_is {x : Nat} (h : x ≠ 1023) : nv x = nI x := if_neg h
theorem nI_ne_NO {x : Nat} (h : x < 2 ^ 20) : nI x ≠ NO := by
  intro q
  have h1 := congrArg Int32.toInt q
  rw [nI_toInt (by omega)] at h1
  have h2 : (NO : Int32).toInt = -1000000 := by decide
  omega
theorem nv_NO {x : Nat} (h : x < 2 ^ 20) : nv x = NO ↔ x = 1023 := by
  constructor
  · intro q
    by_cases e : x = 1023
    · exact e
    · rw [nv_is e] at q
      exact absurd q (nI_ne_NO h)
  · rintro rfl; rfl
theorem dg_lt (t k : Nat) : dg t k < 1024 := Nat.mod_lt _ (by decide)
theorem Pb.add {b n k m : Nat} {ro fp op rs at_ : fA} {fo : fO} {sd rg cl : Int32} (h : Pb b n k m (ro, fp, op, rs, fo, at_, sd, rg, cl)) : Pb b (n + 1) k m (upd ro n (nI (tRo b n)), upd fp n (nv (tFp b n)), upd op n (nv (tOp b n)), rs, fo, at_, sd, rg, nI (n + 1)) := by
  obtain ⟨h1, h2, h3, h4, h5, h6⟩ := h
  refine ⟨h1, h2, rfl, fun c hc => ?_, h5, h6⟩
  show upd ro n _ c = _ ∧ upd fp n _ c = _ ∧ upd op n _ c = _
  by_cases e : c = n
  · subst e
    exact ⟨pk_us, pk_us, pk_us⟩
  · rw [pk_un e, pk_un e, pk_un e]
    exact h4 c (by omega)
section GB
variable {sc : mj_E} {F : Int32 × Int32} {S : fA × fA × fA} {Y : fY} {M : fM} {T : fT} {C : fC} {V : fV} {A : fA × Int32} {Z : mj_H} {d : Nat}
/-- one cell more -/
theorem x_add {b n k m : Nat} {G : fG} (h : Pb b n k m G) (hn : n < 400) : ∃ G', Pb b (n + 1) k m G' ∧ mj_C (d + 1) nX2_addCell [.ref 6, .int (nI (tRo b n)), .int (nv (tFp b n)), .int (nv (tOp b n))] (fbH sc F S G Y M T C V A Z) none (fbH sc F S G' Y M T C V A Z) := by
  obtain ⟨ro, fp, op, rs, fo, at_, sd, rg, cl⟩ := G
  have h3 : cl = nI n := h.2.2.1
  subst h3
  exact ⟨_, h.add, c_addCell hn _ _ _⟩
theorem l_first {b m : Nat} (hb : b < 22) (hr : 0 < br b) : ∀ (j i : Nat) (G : fG), j + i = bp b → Pb b (1 + i) 1 m G → mj_R (mj_C (d + 1)) 2 false none iX2_addFirstRing (2, [some (.ref 6), some (.int (nI i))], [], fbH sc F S G Y M T C V A Z) (fun r h => r = none ∧ ∃ G', Pb b (1 + bp b) 1 m G' ∧ h = fbH sc F S G' Y M T C V A Z)
  | 0, i, G, hj, hP => by
    have hp : bp b ≤ 10 := by
      have := kall_ok kB0_all b hb
      simp only [kB0, Bool.and_eq_true] at this
      exact Nat.le_of_ble_eq_true this.1.2
    refine mj_b0 40 rfl ?_
    refine mj_brt (by show gsd G ≤ nI i; rw [hP.1]; exact nI_le (by omega) (by omega)) ?_
    exact mj_end rfl rfl trivial ⟨rfl, G, by rw [show 1 + bp b = 1 + i by omega]; exact hP, rfl⟩
  | j + 1, i, G, hj, hP => by
    have hp : bp b ≤ 10 := by
      have := kall_ok kB0_all b hb
      simp only [kB0, Bool.and_eq_true] at this
      exact Nat.le_of_ble_eq_true this.1.2
    have k3 := kall_ok kB3_all b hb
    simp only [kB3, Bool.and_eq_true, Bool.or_eq_true] at k3
    rcases k3 with k3 | k3
    · have := Nat.eq_of_beq_eq_true k3
      omega
    have k4 := kall_ok k3.2.2 i (by omega)
    simp only [Bool.and_eq_true] at k4
    have a1 := Nat.eq_of_beq_eq_true k4.1
    have a2 := Nat.eq_of_beq_eq_true k4.2.1
    have a3 := Nat.eq_of_beq_eq_true k4.2.2
    obtain ⟨G', hP', hc⟩ := x_add (sc := sc) (F := F) (S := S) (Y := Y) (M := M) (T := T) (C := C) (V := V) (A := A) (Z := Z) (d := d) hP (by omega)
    rw [a1, a2, a3] at hc
    refine mj_b0 40 rfl ?_
    refine mj_brf (by show ¬ gsd G ≤ nI i; rw [hP.1]; exact nI_ge (by omega) (by omega)) ?_
    refine mj_b0 40 rfl ?_
    refine mj_cV rfl rfl rfl rfl rfl rfl hc ?_
    refine mj_b0 2 rfl ?_
    have ih := l_first (m := m) hb hr j (i + 1) G' (by omega) hP'
    rw [← nI_add i 1] at ih
    exact ih
theorem x_first {b m : Nat} (hb : b < 22) (hr : 0 < br b) {G : fG} (hP : Pb b 1 1 m G) : ∃ G', Pb b (1 + bp b) 1 m G' ∧ mj_C (d + 2) nX2_addFirstRing [.ref 6] (fbH sc F S G Y M T C V A Z) none (fbH sc F S G' Y M T C V A Z) := by
  obtain ⟨r, h', hc, rfl, G', hG, rfl⟩ := mj_C.ex (y := nX2_addFirstRing) (av := [.ref 6]) rfl rfl rfl (mj_b0 2 rfl (l_first (d := d) (m := m) (sc := sc) (F := F) (S := S) (Y := Y) (M := M) (T := T) (C := C) (V := V) (A := A) (Z := Z) hb hr (bp b) 0 G (by omega) hP))
  exact ⟨G', hG, hc⟩
end GB
