/-! promise 33, side by side -/
def chn (b c : Nat) : Nat → Nat
  | 0 => 0
  | k + 1 => chn b c k + if tAt b c k ≠ 1023 ∧ tRo b c < tRo b (tAt b c k) then 1 else 0
def kch (b c k : Nat) : Nat := Nat.rec 0 (fun k n => cond (Nat.beq (tAt b c k) 1023) n (cond (Nat.blt (tRo b c) (tRo b (tAt b c k))) (n + 1) n)) k
theorem kch_eq (b c : Nat) : ∀ k, kch b c k = chn b c k
  | 0 => rfl
  | k + 1 => by
    show cond (Nat.beq (tAt b c k) 1023) (kch b c k) (cond (Nat.blt (tRo b c) (tRo b (tAt b c k))) (kch b c k + 1) (kch b c k)) = _
    rw [kch_eq b c k]
    simp only [chn]
    by_cases h1 : tAt b c k = 1023
    · rw [h1, if_neg (fun z => z.1 rfl)]
      rfl
    · have e1 : Nat.beq (tAt b c k) 1023 = false := by
        cases h : Nat.beq (tAt b c k) 1023 with
        | false => rfl
        | true => exact absurd (Nat.eq_of_beq_eq_true h) h1
      rw [e1]
      by_cases h2 : tRo b c < tRo b (tAt b c k)
      · rw [if_pos ⟨h1, h2⟩, show Nat.blt (tRo b c) (tRo b (tAt b c k)) = true from Nat.ble_eq_true_of_le h2]
        rfl
      · have e2 : Nat.blt (tRo b c) (tRo b (tAt b c k)) = false := by
          cases h : Nat.blt (tRo b c) (tRo b (tAt b c k)) with
          | false => rfl
          | true => exact absurd (mj_blt h) h2
        rw [if_neg (fun z => h2 z.2), e2]
        rfl
set_option maxRecDepth 100000 in
theorem kB9_all : (kall 22 fun b => kall (bn b) (fun c => Nat.ble (br b) (tRo b c) || (!Nat.beq (tOp b c) 1023 || (Nat.beq (tFp b c) 1023 || Nat.beq (kch b c (bp b) + 3) (bp b))))) = true := by decide +kernel
theorem tb9 {b c : Nat} (hb : b < 22) (hc : c < bn b) (h : tKd b c = 1) : chn b c (bp b) + 3 = bp b := by
  have t1 := tb1 hb hc
  have k := kall_ok (kall_ok kB9_all b hb) c hc
  simp only [Bool.or_eq_true, Bool.not_eq_true'] at k
  have h1 : ¬ (0 < br b ∧ tRo b c = br b) := fun q => by
    unfold tKd at h
    rw [if_pos q] at h
    omega
  have h2 : tPar b c = 1 := by
    unfold tKd at h
    rwa [if_neg h1] at h
  have h3 : tOp b c = 1023 ∧ tFp b c ≠ 1023 := by
    unfold tPar at h2
    split at h2
    · split at h2
      · omega
      · exact ⟨by assumption, by assumption⟩
    · omega
  have h4 : ¬ c = 0 := fun q => h3.2 (by rw [q]; exact (tb5 hb).2.1)
  have h5 : tRo b c ≠ 0 := fun q => h4 ((tRo0 hb hc).mp q)
  rw [← kch_eq]
  rcases k with k | k | k | k
  · have := Nat.le_of_ble_eq_true k
    omega
  · rw [h3.1] at k
    cases k
  · exact absurd (Nat.eq_of_beq_eq_true k) h3.2
  · exact Nat.eq_of_beq_eq_true k
section AK
variable {sc : mj_E} {F : Int32 × Int32} {S : fA × fA × fA} {G : fG} {Y : fY} {M : fM} {T : fT} {C : fC} {V : fV} {Z : mj_H} {d : Nat}
theorem c_enter {f : fA} {n : Nat} (hn : n < 16) (x : Int32) : mj_C (d + 1) nX0_enter [.ref 33, .int x] (fbH sc F S G Y M T C V (f, nI n) Z) none (fbH sc F S G Y M T C V (upd f n x, nI (n + 1)) Z) := by
  have e1 : (nI n).toNatClampNeg = n := nI_clamp (by omega)
  refine mj_C.of rfl rfl rfl ?_
  refine mj_b0 40 rfl ?_
  refine mj_brf (show ¬ nI 16 ≤ nI n from nI_ge hn (by omega)) ?_
  refine mj_b1 40 rfl (nI_ix hn (by omega)) ?_
  refine mj_end rfl rfl trivial ⟨rfl, ?_⟩
  exact Eq.trans (b := fbH sc F S G Y M T C V (upd f (nI n).toNatClampNeg x, nI n + nI 1) Z) rfl (by rw [e1, nI_add])
theorem c_lentSize {b c : Nat} {f : fA} {n : Nat} (hb : b < 22) (h : Bd b G) (hc : c < bn b) (hn : n < 16) : mj_C (d + 2) nX0_lentSize [.ref 33, .int (nI c)] (fbH sc F S G Y M T C V (f, nI n) Z) (some (.int (nI (tRo b c)))) (fbH sc F S G Y M T C V (upd f n (nI 10), nI (n + 1)) Z) := by
  have t0 := tb0 hb
  have e1 : (nI c).toNatClampNeg = c := nI_clamp (by omega)
  refine mj_C.of rfl rfl rfl ?_
  refine mj_b0 40 rfl ?_
  refine mj_cV rfl rfl rfl rfl rfl rfl (c_enter hn (nI 10)) ?_
  refine mj_b1 40 rfl (nI_ix (show c < 400 by omega) (by omega)) ?_
  rw [e1, bd_ro h hc]
  exact mj_end rfl rfl trivial ⟨rfl, rfl⟩
theorem c_lentMark {c : Nat} {f : fA} {n : Nat} (hn : n < 16) : mj_C (d + 2) nX0_lentMark [.ref 33, .int (nI c)] (fbH sc F S G Y M T C V (f, nI n) Z) (some (.int (nI c))) (fbH sc F S G Y M T C V (upd f n (nI 20), nI (n + 1)) Z) := by
  refine mj_C.of rfl rfl rfl ?_
  refine mj_b0 40 rfl ?_
  refine mj_cV rfl rfl rfl rfl rfl rfl (c_enter hn (nI 20)) ?_
  refine mj_b0 40 rfl ?_
  exact mj_end rfl rfl trivial ⟨rfl, rfl⟩
theorem c_childrenOf {A : fA × Int32} {b c : Nat} (hb : b < 22) (h : Bd b G) (hc : c < bn b) : mj_C (d + 2) nX2_childrenOf [.ref 6, .int (nI c)] (fbH sc F S G Y M T C V A Z) (some (.int (nI (chn b c (bp b))))) (fbH sc F S G Y M T C V A Z) := by
  have t0 := tb0 hb
  have ts := st_lt hb hc
  have e1 : (nI c).toNatClampNeg = c := nI_clamp (by omega)
  have e2 : nI c + mj_kc 1 = nI (c + 1) := nI_add c 1
  have e3 : (nI (c + 1)).toNatClampNeg = c + 1 := nI_clamp (by omega)
  have i1 : vp_in (nI c) 401 := nI_ix (show c < 401 by omega) (by omega)
  have i2 : vp_in (nI c + mj_kc 1) 401 := by rw [e2]; exact nI_ix (show c + 1 < 401 by omega) (by omega)
  have hX : ∀ s, s < bp b → tAt b c s = 1023 → chn b c (s + 1) = chn b c s := fun s _ q => by
    simp only [chn, if_neg (fun z : tAt b c s ≠ 1023 ∧ tRo b c < tRo b (tAt b c s) => z.1 q)]
    rfl
  have t1 := tb1 hb hc
  have x0 := nbp_0 hb hc (chn b c) hX
  refine mj_C.of rfl rfl rfl ?_
  refine mj_b1 7 rfl (i1) ?_
  rw [e1, h.st hc]
  refine mj_sq (S' := (9, [some (.ref 6), some (.int (nI c)), some (.int (nI (chn b c (nbp b c 0)))), some (.int (nI (tSt b c + 0)))], [], (fbH sc F S G Y M T C V A Z))) (by rw [x0] <;> rfl) ?_
  refine mj_iter (fun i => (9, [some (.ref 6), some (.int (nI c)), some (.int (nI (chn b c (nbp b c i)))), some (.int (nI (tSt b c + i)))], [], (fbH sc F S G Y M T C V A Z))) (tDg b c) (fun i hi ih => ?_) ?_
  · obtain ⟨s, hs, e6, e7, e8⟩ := nbp_n hb hc (chn b c) hX hi
    have ok := tNb_ok hb hc hi
    have e4 : (nI (tSt b c + i)).toNatClampNeg = tSt b c + i := nI_clamp (by omega)
    have e5 : (nI (tNb b c i)).toNatClampNeg = tNb b c i := nI_clamp (by omega)
    have i3 : vp_in (nI (tSt b c + i)) 2400 := nI_ix (show tSt b c + i < 2400 by omega) (by omega)
    have i4 : vp_in (nI (tNb b c i)) 400 := nI_ix (show tNb b c i < 400 by omega) (by omega)
    have t2 := tb1 hb ok.2.1
    rw [e7]
    rw [e8, ← Nat.add_assoc (tSt b c) i 1, ← nI_add (tSt b c + i) 1] at ih
    refine mj_b1 40 rfl (i2) ?_
    rw [e2, e3, h.sn hc]
    refine mj_brf (nI_ge (by omega) (by omega)) ?_
    refine mj_b1 40 rfl (⟨⟨i3, by rw [e4, h.nb hc hi]; exact i4⟩, nI_ix (show c < 400 by omega) (by omega)⟩) ?_
    rw [e4, h.nb hc hi, e5, e1, bd_ro h ok.2.1, bd_ro h hc]
    by_cases q2 : tRo b c < tRo b (tNb b c i)
    · refine mj_brf (nI_ge q2 (by omega)) ?_
      refine mj_b0 6 rfl ?_
      simp only [chn, if_pos (show tAt b c s ≠ 1023 ∧ tRo b c < tRo b (tAt b c s) from by rw [e6]; exact ⟨ok.1, q2⟩)] at ih
      rw [← nI_add (chn b c s) 1] at ih
      exact ih
    · refine mj_brt (nI_le (by omega) (by omega)) ?_
      refine mj_b0 5 rfl ?_
      simp only [chn, if_neg (fun z : tAt b c s ≠ 1023 ∧ tRo b c < tRo b (tAt b c s) => q2 (by rw [← e6]; exact z.2))] at ih
      rw [← Nat.add_zero (chn b c s), ← nI_add (chn b c s) 0] at ih
      exact ih
  · refine mj_b1 40 rfl (i2) ?_
    rw [e2, e3, h.sn hc]
    refine mj_brt (nI_le (Nat.le_refl _) (by omega)) ?_
    refine mj_b0 40 rfl ?_
    rw [nbp_end]
    exact mj_end rfl rfl trivial ⟨rfl, rfl⟩
/-- what a body answers, what it leaves -/
def akS (b c : Nat) : Int32 := if tKd b c = 1 then nI (tRo b c) + nI (chn b c (bp b)) else if tKd b c = 2 then nI (tRo b c) + nv (tFp b c) + nv (tOp b c) else nI (tRo b c)
def akM (b c : Nat) : Int32 := if tKd b c = 1 then nI c + nI 1000 else if tKd b c = 3 then nI 2 * nI c else nI c
/-- bodies entered one behind another -/
def enL (f : fA) (n : Nat) : List Int32 → fA
  | [] => f
  | x :: l => enL (upd f n x) (n + 1) l
theorem c_size0 {b c dp : Nat} {f : fA} {n : Nat} (hb : b < 22) (h : Bd b G) (hc : c < bn b) (hn : n < 12) (hk : tKd b c = 0) : mj_C (d + 3) nX0_sizeAsked [.ref 33, .int (nI c), .int (nI dp)] (fbH sc F S G Y M T C V (f, nI n) Z) (some (.int (nI (tRo b c)))) (fbH sc F S G Y M T C V (enL f n [nI 10], nI (n + 1)) Z) := by
  refine mj_C.of rfl rfl rfl ?_
  refine mj_b0 40 rfl ?_
  refine mj_cV rfl rfl rfl rfl rfl rfl (c_toldKind hb h hc) ?_
  rw [hk]
  refine mj_swt (t := 111) rfl (Or.inl ⟨by decide, rfl⟩) ?_
  refine mj_b0 40 rfl ?_
  refine mj_cV rfl rfl rfl rfl rfl rfl (c_lentSize hb h hc (show n < 16 by omega)) ?_
  exact mj_end rfl rfl trivial ⟨rfl, rfl⟩
theorem c_size1 {b c dp : Nat} {f : fA} {n : Nat} (hb : b < 22) (h : Bd b G) (hc : c < bn b) (hn : n < 12) (hk : tKd b c = 1) : mj_C (d + 3) nX0_sizeAsked [.ref 33, .int (nI c), .int (nI dp)] (fbH sc F S G Y M T C V (f, nI n) Z) (some (.int (nI (tRo b c) + nI (chn b c (bp b))))) (fbH sc F S G Y M T C V (enL f n [nI 11, nI 10], nI (n + 2)) Z) := by
  refine mj_C.of rfl rfl rfl ?_
  refine mj_b0 40 rfl ?_
  refine mj_cV rfl rfl rfl rfl rfl rfl (c_toldKind hb h hc) ?_
  rw [hk]
  refine mj_swt (t := 36) rfl (Or.inr ⟨by decide, by decide, 28, rfl, rfl⟩) ?_
  refine mj_b0 40 rfl ?_
  refine mj_cV rfl rfl rfl rfl rfl rfl (c_enter (show n < 16 by omega) (nI 11)) ?_
  refine mj_b0 40 rfl ?_
  refine mj_cV rfl rfl rfl rfl rfl rfl (c_lentSize hb h hc (show n + 1 < 16 by omega)) ?_
  refine mj_b0 40 rfl ?_
  refine mj_cV rfl rfl rfl rfl rfl rfl (c_childrenOf hb h hc) ?_
  refine mj_b0 40 rfl ?_
  exact mj_end rfl rfl trivial ⟨rfl, rfl⟩
theorem c_size2 {b c dp : Nat} {f : fA} {n : Nat} (hb : b < 22) (h : Bd b G) (hc : c < bn b) (hn : n < 12) (hk : tKd b c = 2) : mj_C (d + 3) nX0_sizeAsked [.ref 33, .int (nI c), .int (nI dp)] (fbH sc F S G Y M T C V (f, nI n) Z) (some (.int (nI (tRo b c) + nv (tFp b c) + nv (tOp b c)))) (fbH sc F S G Y M T C V (enL f n [nI 12, nI 10], nI (n + 2)) Z) := by
  have t0 := tb0 hb
  have e1 : (nI c).toNatClampNeg = c := nI_clamp (by omega)
  refine mj_C.of rfl rfl rfl ?_
  refine mj_b0 40 rfl ?_
  refine mj_cV rfl rfl rfl rfl rfl rfl (c_toldKind hb h hc) ?_
  rw [hk]
  refine mj_swt (t := 57) rfl (Or.inr ⟨by decide, by decide, 49, rfl, rfl⟩) ?_
  refine mj_b0 40 rfl ?_
  refine mj_cV rfl rfl rfl rfl rfl rfl (c_enter (show n < 16 by omega) (nI 12)) ?_
  refine mj_b0 40 rfl ?_
  refine mj_cV rfl rfl rfl rfl rfl rfl (c_lentSize hb h hc (show n + 1 < 16 by omega)) ?_
  refine mj_b1 40 rfl (⟨nI_ix (show c < 400 by omega) (by omega), nI_ix (show c < 400 by omega) (by omega)⟩) ?_
  rw [e1, bd_fp h hc, bd_op h hc]
  exact mj_end rfl rfl trivial ⟨rfl, rfl⟩
theorem c_mark0 {b c dp : Nat} {f : fA} {n : Nat} (hb : b < 22) (h : Bd b G) (hc : c < bn b) (hn : n < 12) (hk : tKd b c = 0) : mj_C (d + 3) nX0_markAsked [.ref 33, .int (nI c), .int (nI dp)] (fbH sc F S G Y M T C V (f, nI n) Z) (some (.int (nI c))) (fbH sc F S G Y M T C V (enL f n [nI 20], nI (n + 1)) Z) := by
  refine mj_C.of rfl rfl rfl ?_
  refine mj_b0 40 rfl ?_
  refine mj_cV rfl rfl rfl rfl rfl rfl (c_toldKind hb h hc) ?_
  rw [hk]
  refine mj_swt (t := 88) rfl (Or.inl ⟨by decide, rfl⟩) ?_
  refine mj_b0 40 rfl ?_
  refine mj_cV rfl rfl rfl rfl rfl rfl (c_lentMark (show n < 16 by omega)) ?_
  exact mj_end rfl rfl trivial ⟨rfl, rfl⟩
theorem c_mark1 {b c dp : Nat} {f : fA} {n : Nat} (hb : b < 22) (h : Bd b G) (hc : c < bn b) (hn : n < 12) (hk : tKd b c = 1) : mj_C (d + 3) nX0_markAsked [.ref 33, .int (nI c), .int (nI dp)] (fbH sc F S G Y M T C V (f, nI n) Z) (some (.int (nI c + nI 1000))) (fbH sc F S G Y M T C V (enL f n [nI 21, nI 20], nI (n + 2)) Z) := by
  refine mj_C.of rfl rfl rfl ?_
  refine mj_b0 40 rfl ?_
  refine mj_cV rfl rfl rfl rfl rfl rfl (c_toldKind hb h hc) ?_
  rw [hk]
  refine mj_swt (t := 36) rfl (Or.inr ⟨by decide, by decide, 28, rfl, rfl⟩) ?_
  refine mj_b0 40 rfl ?_
  refine mj_cV rfl rfl rfl rfl rfl rfl (c_enter (show n < 16 by omega) (nI 21)) ?_
  refine mj_b0 40 rfl ?_
  refine mj_cV rfl rfl rfl rfl rfl rfl (c_lentMark (show n + 1 < 16 by omega)) ?_
  refine mj_b0 40 rfl ?_
  exact mj_end rfl rfl trivial ⟨rfl, rfl⟩
theorem c_mark3 {b c dp : Nat} {f : fA} {n : Nat} (hb : b < 22) (h : Bd b G) (hc : c < bn b) (hn : n < 12) (hk : tKd b c = 3) : mj_C (d + 3) nX0_markAsked [.ref 33, .int (nI c), .int (nI dp)] (fbH sc F S G Y M T C V (f, nI n) Z) (some (.int (nI 2 * nI c))) (fbH sc F S G Y M T C V (enL f n [nI 23, nI 20], nI (n + 2)) Z) := by
  refine mj_C.of rfl rfl rfl ?_
  refine mj_b0 40 rfl ?_
  refine mj_cV rfl rfl rfl rfl rfl rfl (c_toldKind hb h hc) ?_
  rw [hk]
  refine mj_swt (t := 74) rfl (Or.inr ⟨by decide, by decide, 66, rfl, rfl⟩) ?_
  refine mj_b0 40 rfl ?_
  refine mj_cV rfl rfl rfl rfl rfl rfl (c_enter (show n < 16 by omega) (nI 23)) ?_
  refine mj_b0 40 rfl ?_
  refine mj_cV rfl rfl rfl rfl rfl rfl (c_lentMark (show n + 1 < 16 by omega)) ?_
  refine mj_b0 40 rfl ?_
  exact mj_end rfl rfl trivial ⟨rfl, rfl⟩
theorem c_ansS {c dp : Nat} {A A' : fA × Int32} {r : Int32} (hd : dp < 8) (k : mj_C (d + 3) nX0_sizeAsked [.ref 33, .int (nI c), .int (nI dp)] (fbH sc F S G Y M T C V A Z) (some (.int r)) (fbH sc F S G Y M T C V A' Z)) : mj_C (d + 4) nX0_answer [.ref 33, .int (nI c), .int (nI 0), .int (nI dp)] (fbH sc F S G Y M T C V A Z) (some (.int r)) (fbH sc F S G Y M T C V A' Z) := by
  refine mj_C.of rfl rfl rfl ?_
  refine mj_b0 40 rfl ?_
  refine mj_brt (show nI dp < nI 8 from nI_lt hd (by omega)) ?_
  refine mj_b0 40 rfl ?_
  refine mj_brf (show ¬ ¬ nI 0 = 0 by decide) ?_
  refine mj_b0 40 rfl ?_
  refine mj_cV rfl rfl rfl rfl rfl rfl (k) ?_
  refine mj_b0 40 rfl ?_
  exact mj_end rfl rfl trivial ⟨rfl, rfl⟩
theorem c_ansM {c dp : Nat} {A A' : fA × Int32} {r : Int32} (hd : dp < 8) (k : mj_C (d + 3) nX0_markAsked [.ref 33, .int (nI c), .int (nI dp)] (fbH sc F S G Y M T C V A Z) (some (.int r)) (fbH sc F S G Y M T C V A' Z)) : mj_C (d + 4) nX0_answer [.ref 33, .int (nI c), .int (nI 1), .int (nI dp)] (fbH sc F S G Y M T C V A Z) (some (.int r)) (fbH sc F S G Y M T C V A' Z) := by
  refine mj_C.of rfl rfl rfl ?_
  refine mj_b0 40 rfl ?_
  refine mj_brt (show nI dp < nI 8 from nI_lt hd (by omega)) ?_
  refine mj_b0 40 rfl ?_
  refine mj_brt (show ¬ nI 1 = 0 by decide) ?_
  refine mj_b0 40 rfl ?_
  refine mj_cV rfl rfl rfl rfl rfl rfl (k) ?_
  exact mj_end rfl rfl trivial ⟨rfl, rfl⟩
theorem c_size3 {b c : Nat} {f : fA} {n : Nat} (hb : b < 22) (h : Bd b G) (hc : c < bn b) (hn : n < 10) (hk : tKd b c = 3) : mj_C (d + 5) nX0_sizeAsked [.ref 33, .int (nI c), .int (nI 0)] (fbH sc F S G Y M T C V (f, nI n) Z) (some (.int (nI (tRo b c) - nI 2 * nI c))) (fbH sc F S G Y M T C V (enL f n [nI 13, nI 10, nI 23, nI 20], nI (n + 4)) Z) := by
  refine mj_C.of rfl rfl rfl ?_
  refine mj_b0 40 rfl ?_
  refine mj_cV rfl rfl rfl rfl rfl rfl (c_toldKind hb h hc) ?_
  rw [hk]
  refine mj_swt (t := 89) rfl (Or.inr ⟨by decide, by decide, 81, rfl, rfl⟩) ?_
  refine mj_b0 40 rfl ?_
  refine mj_cV rfl rfl rfl rfl rfl rfl (c_enter (show n < 16 by omega) (nI 13)) ?_
  refine mj_b0 40 rfl ?_
  refine mj_cV rfl rfl rfl rfl rfl rfl (c_lentSize hb h hc (show n + 1 < 16 by omega)) ?_
  refine mj_b0 40 rfl ?_
  refine mj_cV rfl rfl rfl rfl rfl rfl (c_ansM (dp := 1) (by omega) (c_mark3 hb h hc (show n + 2 < 12 by omega) hk)) ?_
  refine mj_b0 40 rfl ?_
  exact mj_end rfl rfl trivial ⟨rfl, rfl⟩
theorem c_mark2 {b c : Nat} {f : fA} {n : Nat} (hb : b < 22) (h : Bd b G) (hc : c < bn b) (hn : n < 10) (hk : tKd b c = 2) : mj_C (d + 5) nX0_markAsked [.ref 33, .int (nI c), .int (nI 0)] (fbH sc F S G Y M T C V (f, nI n) Z) (some (.int (nI c + (nI (tRo b c) + nv (tFp b c) + nv (tOp b c))))) (fbH sc F S G Y M T C V (enL f n [nI 22, nI 20, nI 12, nI 10], nI (n + 4)) Z) := by
  refine mj_C.of rfl rfl rfl ?_
  refine mj_b0 40 rfl ?_
  refine mj_cV rfl rfl rfl rfl rfl rfl (c_toldKind hb h hc) ?_
  rw [hk]
  refine mj_swt (t := 52) rfl (Or.inr ⟨by decide, by decide, 44, rfl, rfl⟩) ?_
  refine mj_b0 40 rfl ?_
  refine mj_cV rfl rfl rfl rfl rfl rfl (c_enter (show n < 16 by omega) (nI 22)) ?_
  refine mj_b0 40 rfl ?_
  refine mj_cV rfl rfl rfl rfl rfl rfl (c_lentMark (show n + 1 < 16 by omega)) ?_
  refine mj_b0 40 rfl ?_
  refine mj_cV rfl rfl rfl rfl rfl rfl (c_ansS (dp := 1) (by omega) (c_size2 hb h hc (show n + 2 < 12 by omega) hk)) ?_
  refine mj_b0 40 rfl ?_
  exact mj_end rfl rfl trivial ⟨rfl, rfl⟩
/-- what a call of ask answers and which bodies it enters -/
def akR (b c : Nat) (w k : Nat) : Int32 × List Int32 := match w, k with
  | 0, 0 => (nI (tRo b c), [nI 10])
  | 0, 1 => (nI (tRo b c) + nI (chn b c (bp b)), [nI 11, nI 10])
  | 0, 2 => (nI (tRo b c) + nv (tFp b c) + nv (tOp b c), [nI 12, nI 10])
  | 0, _ => (nI (tRo b c) - nI 2 * nI c, [nI 13, nI 10, nI 23, nI 20])
  | _, 0 => (nI c, [nI 20])
  | _, 1 => (nI c + nI 1000, [nI 21, nI 20])
  | _, 2 => (nI c + (nI (tRo b c) + nv (tFp b c) + nv (tOp b c)), [nI 22, nI 20, nI 12, nI 10])
  | _, _ => (nI 2 * nI c, [nI 23, nI 20])
theorem tKd_le (b c : Nat) : tKd b c ≤ 3 := by
  unfold tKd
  split
  · omega
  · have := tPar_le b c
    omega
theorem c_answer {b c k : Nat} {f : fA} (hb : b < 22) (h : Bd b G) (hc : c < bn b) (hk : k < 2) : mj_C (d + 6) nX0_answer [.ref 33, .int (nI c), .int (nI k), .int (nI 0)] (fbH sc F S G Y M T C V (f, nI 0) Z) (some (.int (akR b c k (tKd b c)).1)) (fbH sc F S G Y M T C V (enL f 0 (akR b c k (tKd b c)).2, nI (akR b c k (tKd b c)).2.length) Z) := by
  have t2 := tKd_le b c
  rcases (show k = 0 ∨ k = 1 by omega) with rfl | rfl
  · rcases (show tKd b c = 0 ∨ tKd b c = 1 ∨ tKd b c = 2 ∨ tKd b c = 3 by omega) with q | q | q | q
    · rw [q]; exact c_ansS (by omega) (c_size0 hb h hc (by omega) q)
    · rw [q]; exact c_ansS (by omega) (c_size1 hb h hc (by omega) q)
    · rw [q]; exact c_ansS (by omega) (c_size2 hb h hc (by omega) q)
    · rw [q]; exact c_ansS (by omega) (c_size3 hb h hc (by omega) q)
  · rcases (show tKd b c = 0 ∨ tKd b c = 1 ∨ tKd b c = 2 ∨ tKd b c = 3 by omega) with q | q | q | q
    · rw [q]; exact c_ansM (by omega) (c_mark0 hb h hc (by omega) q)
    · rw [q]; exact c_ansM (by omega) (c_mark1 hb h hc (by omega) q)
    · rw [q]; exact c_ansM (by omega) (c_mark2 hb h hc (by omega) q)
    · rw [q]; exact c_ansM (by omega) (c_mark3 hb h hc (by omega) q)
theorem c_answerAnew {A : fA × Int32} {b c k : Nat} (hb : b < 22) (h : Bd b G) (hc : c < bn b) (hk : k < 2) : mj_C (d + 7) nX0_answerAnew [.ref 33, .int (nI c), .int (nI k)] (fbH sc F S G Y M T C V A Z) (some (.int (akR b c k (tKd b c)).1)) (fbH sc F S G Y M T C V (enL A.1 0 (akR b c k (tKd b c)).2, nI (akR b c k (tKd b c)).2.length) Z) := by
  refine mj_C.of rfl rfl rfl ?_
  refine mj_b0 40 rfl ?_
  refine mj_hq (h' := fbH sc F S G Y M T C V (A.1, nI 0) Z) rfl ?_
  refine mj_cV rfl rfl rfl rfl rfl rfl (c_answer hb h hc hk) ?_
  exact mj_end rfl rfl trivial ⟨rfl, rfl⟩
theorem c_ask {A : fA × Int32} {b c k : Nat} (hb : b < 22) (h : Bd b G) (hc : c < bn b) (hk : k < 2) : mj_C (d + 8) nX8_ask [.ref 1, .int (nI c), .int (nI k)] (fbH sc F S G Y M T C V A Z) (some (.int (akR b c k (tKd b c)).1)) (fbH sc F S G Y M T C V (enL A.1 0 (akR b c k (tKd b c)).2, nI (akR b c k (tKd b c)).2.length) Z) := by
  refine mj_C.of rfl rfl rfl ?_
  refine mj_b0 40 rfl ?_
  refine mj_cV rfl rfl rfl rfl rfl rfl (x_has h (nI c)) ?_
  refine mj_b0 40 rfl ?_
  refine mj_brf (fun z => vB_0.mp z (okb hb hc)) ?_
  refine mj_b0 40 rfl ?_
  refine mj_brf (nI_pos (by omega)) ?_
  refine mj_b0 40 rfl ?_
  refine mj_brt (show nI k ≤ nI 1 from nI_le (by omega) (by omega)) ?_
  refine mj_b0 40 rfl ?_
  refine mj_cV rfl rfl rfl rfl rfl rfl (c_answerAnew hb h hc hk) ?_
  exact mj_end rfl rfl trivial ⟨rfl, rfl⟩
end AK
