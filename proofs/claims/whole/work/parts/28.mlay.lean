/-! the model lays its sides -/
set_option maxRecDepth 100000 in
theorem kB8_all : (kall 22 fun b => kall (bn b - 1) (fun c' => kall (bp b - 2 - tPar b (c' + 1)) (fun k => Nat.beq (tAt b (c' + 1) (tPar b (c' + 1) + 1 + k)) (if tRo b (c' + 1) < br b then (if k + 1 = bp b - 2 - tPar b (c' + 1) then tFo b (tAhe b (c' + 1)) + (bp b - 4 - tPar b (tAhe b (c' + 1))) else tFo b (c' + 1) + (bp b - 4 - tPar b (c' + 1)) - k) else 1023) && (Nat.beq (tRo b (tAhe b (c' + 1))) (tRo b (c' + 1)) && Nat.blt (tAhe b (c' + 1)) (bn b))))) = true := by decide +kernel
theorem tb8 {b c k : Nat} (hb : b < 22) (hc : c < bn b) (h1 : 1 ≤ c) (hk : k < bp b - 2 - tPar b c) : tAt b c (tPar b c + 1 + k) = (if tRo b c < br b then (if k + 1 = bp b - 2 - tPar b c then tFo b (tAhe b c) + (bp b - 4 - tPar b (tAhe b c)) else tFo b c + (bp b - 4 - tPar b c) - k) else 1023) ∧ tRo b (tAhe b c) = tRo b c ∧ tAhe b c < bn b := by
  have h := kall_ok (kall_ok kB8_all b hb) (c - 1) (by omega)
  rw [show c - 1 + 1 = c by omega] at h
  have h2 := kall_ok h k hk
  simp only [Bool.and_eq_true] at h2
  exact ⟨Nat.eq_of_beq_eq_true h2.1, Nat.eq_of_beq_eq_true h2.2.1, mj_blt h2.2.2⟩
/-- so far laid: the rows below c; of c the sides in W; nothing else -/
def Pw (b c : Nat) (W : Nat → Prop) (g : fG) : Prop := Pb b (bn b) (br b + 1) 1 g ∧ (∀ c', c' < c → ∀ s, s < bp b → gat g (c' * 10 + s) = nv (tAt b c' s)) ∧ (∀ s, s < 10 → W s → gat g (c * 10 + s) = nv (tAt b c s)) ∧ (∀ s, s < 10 → ¬ W s → gat g (c * 10 + s) = NO) ∧ ∀ i, (c + 1) * 10 ≤ i → i < 4000 → gat g i = NO
theorem Pw.put {b c s : Nat} {W : Nat → Prop} {ro fp op rs at_ : fA} {fo : fO} {sd rg cl : Int32} (h : Pw b c W (ro, fp, op, rs, fo, at_, sd, rg, cl)) (hs : s < 10) {x : Int32} (hx : x = nv (tAt b c s)) : Pw b c (fun s' => s' = s ∨ W s') (ro, fp, op, rs, fo, upd at_ (c * 10 + s) x, sd, rg, cl) := by
  obtain ⟨h1, h2, h3, h4, h5⟩ := h
  refine ⟨h1, fun c' a1 s' a2 => ?_, fun s' a1 a2 => ?_, fun s' a1 a2 => ?_, fun i a1 a2 => ?_⟩
  · show upd at_ (c * 10 + s) x (c' * 10 + s') = _
    by_cases hs9 : s' < 10
    · rw [pk_un (by omega)]; exact h2 c' a1 s' a2
    · by_cases e : c' * 10 + s' = c * 10 + s
      · rw [← h2 c' a1 s' a2]
        show upd at_ (c * 10 + s) x (c' * 10 + s') = at_ (c' * 10 + s')
        exfalso
        have := h1.1
        have hb : bp b ≤ 10 := by
          unfold bp
          have : ∀ b, bpL.getD b 0 ≤ 10 := by
            intro b
            by_cases hb : b < 22
            · have h : ∀ b, b < 22 → bpL.getD b 0 ≤ 10 := by decide
              exact h b hb
            · rw [List.getD_eq_getElem?_getD, List.getElem?_eq_none (by simp [bpL]; omega)]
              exact Nat.zero_le _
          exact this b
        omega
      · rw [pk_un e]; exact h2 c' a1 s' a2
  · show upd at_ (c * 10 + s) x (c * 10 + s') = _
    by_cases e : s' = s
    · subst e; rw [pk_us, hx]
    · rw [pk_un (by omega)]
      exact h3 s' a1 (a2.resolve_left e)
  · show upd at_ (c * 10 + s) x (c * 10 + s') = _
    rw [pk_un (fun e => a2 (Or.inl (by omega)))]
    exact h4 s' a1 (fun z => a2 (Or.inr z))
  · show upd at_ (c * 10 + s) x i = _
    rw [pk_un (by omega)]
    exact h5 i a1 a2
theorem bn_300 {b : Nat} (hb : b < 22) : bn b ≤ 300 := by
  have h : ∀ b, b < 22 → bn b ≤ 300 := by decide +kernel
  exact h b hb
theorem Pw.done {b c : Nat} {W : Nat → Prop} {g : fG} (hb : b < 22) (h : Pw b c W g) (hw : ∀ s, s < bp b → W s ∨ tAt b c s = 1023) (hc : c < bn b) : Pw b (c + 1) (fun _ => False) g := by
  have t0 := tb0 hb
  obtain ⟨h1, h2, h3, h4, h5⟩ := h
  refine ⟨h1, fun c' a1 s a2 => ?_, fun s a1 a2 => a2.elim, fun s a1 _ => ?_, fun i a1 a2 => h5 i (by omega) a2⟩
  · by_cases e : c' = c
    · subst e
      rcases Classical.em (W s) with q | q
      · exact h3 s (by omega) q
      · rw [h4 s (by omega) q, (hw s a2).resolve_left q]; rfl
    · exact h2 c' (by omega) s a2
  · have := bn_300 hb
    exact h5 _ (by omega) (by omega)
section ML
variable {P : fP} {U : fU} {s : fA × fA × fA} {w : fW} {m : fM} {t : fR} {c : fA × fA × fA} {v : fA × fA} {a : fA × Int32} {d : Nat}
theorem xm_beh {b x : Nat} {g : fG} (hb : b < 22) (hx : x < bn b) (hP : Pb b (bn b) (br b + 1) 1 g) : mj_C (d + 2) nX9_round [.ref 35, .int (nI x), .int (nI 1)] (fbP P (mdZ U s g w m t c v a)) (some (.int (nI (tBeh b x)))) (fbP P (mdZ U s g w m t c v a)) := by
  have t0 := tb0 hb
  have t1 := tb1 hb hx
  have t2 := tb_rs' hb (show tRo b x + 1 ≤ br b + 1 by omega)
  have hlt := t0.2.2.2.2.2.2.2 (tRo b x) t1.1
  obtain ⟨n, hn⟩ : ∃ n, bRs b (tRo b x + 1) = bRs b (tRo b x) + n := ⟨bRs b (tRo b x + 1) - bRs b (tRo b x), by omega⟩
  have h := m_round (P := P) (U := U) (s := s) (g := g) (w := w) (m := m) (t := t) (c := c) (v := v) (a := a) (d := d) (x := x) (k := tRo b x) (f := bRs b (tRo b x)) (n := n) (z := x - bRs b (tRo b x) + 1 + n) (by omega) (by omega) (hP.2.2.2.1 x hx).1 (hP.2.2.2.2.1 _ (by omega)) (by rw [hP.2.2.2.2.1 _ (by omega), hn]) (by omega) t1.2.1 (by omega) (by omega) (y := nI 1) (by rw [nI_add, nI_add])
  have e : bRs b (tRo b x) + (x - bRs b (tRo b x) + 1 + n) % n = tBeh b x := by
    rw [Nat.add_mod_right]
    unfold tBeh
    by_cases q : x + 1 < bRs b (tRo b x + 1)
    · rw [if_pos q, Nat.mod_eq_of_lt (by omega)]; omega
    · rw [if_neg q, show x - bRs b (tRo b x) + 1 = n by omega, Nat.mod_self]; rfl
  rw [e] at h
  exact h
theorem xm_ahe {b x : Nat} {g : fG} (hb : b < 22) (hx : x < bn b) (hP : Pb b (bn b) (br b + 1) 1 g) : mj_C (d + 2) nX9_round [.ref 35, .int (nI x), .int (-(nI 1))] (fbP P (mdZ U s g w m t c v a)) (some (.int (nI (tAhe b x)))) (fbP P (mdZ U s g w m t c v a)) := by
  have t0 := tb0 hb
  have t1 := tb1 hb hx
  have t2 := tb_rs' hb (show tRo b x + 1 ≤ br b + 1 by omega)
  have hlt := t0.2.2.2.2.2.2.2 (tRo b x) t1.1
  obtain ⟨n, hn⟩ : ∃ n, bRs b (tRo b x + 1) = bRs b (tRo b x) + n := ⟨bRs b (tRo b x + 1) - bRs b (tRo b x), by omega⟩
  have hneg : nI (x - bRs b (tRo b x)) + -(nI 1) + nI n = nI (x - bRs b (tRo b x) + n - 1) := by
    rw [← pk_sub (show 1 ≤ x - bRs b (tRo b x) + n by omega), ← nI_add, Int32.sub_eq_add_neg, Int32.add_assoc, Int32.add_comm (-(nI 1)), ← Int32.add_assoc]
  have h := m_round (P := P) (U := U) (s := s) (g := g) (w := w) (m := m) (t := t) (c := c) (v := v) (a := a) (d := d) (x := x) (k := tRo b x) (f := bRs b (tRo b x)) (n := n) (z := x - bRs b (tRo b x) + n - 1) (by omega) (by omega) (hP.2.2.2.1 x hx).1 (hP.2.2.2.2.1 _ (by omega)) (by rw [hP.2.2.2.2.1 _ (by omega), hn]) (by omega) t1.2.1 (by omega) (by omega) (y := -(nI 1)) hneg
  have e : bRs b (tRo b x) + (x - bRs b (tRo b x) + n - 1) % n = tAhe b x := by
    unfold tAhe
    by_cases q : bRs b (tRo b x) < x
    · rw [if_pos q, show x - bRs b (tRo b x) + n - 1 = (x - bRs b (tRo b x) - 1) + n by omega, Nat.add_mod_right, Nat.mod_eq_of_lt (by omega)]; omega
    · rw [if_neg q, show x - bRs b (tRo b x) + n - 1 = n - 1 by omega, Nat.mod_eq_of_lt (by omega)]; omega
  rw [e] at h
  exact h
/-- the CHILDREN's sides -/
theorem lm_child {b x : Nat} {Q : Option Value → mj_H → Prop} (hb : b < 22) (hx : x < bn b) (h1 : 1 ≤ x) (hr : tRo b x < br b) : ∀ (j k : Nat) (g : fG) (W : Nat → Prop), j + k = bp b - 2 - tPar b x → Pw b x W g → (∀ g' y W', Pw b x W' g' → (∀ s, W s → W' s) → (∀ i, k ≤ i → i < bp b - 2 - tPar b x → W' (tPar b x + 1 + i)) → mj_R (mj_C (d + 3)) 9 false none iX9_lay (255, [some (.ref 35), some (.int (nI x)), some (.int (nI (10 * x))), some (.int (nI (tPar b x))), some (.int (nI (tFo b x + (bp b - 4 - tPar b x)))), some (.int (nI (tFo b (tAhe b x) + (bp b - 4 - tPar b (tAhe b x))))), some (.int (nI (bp b - 2 - tPar b x))), some (.int y)], [], fbP P (mdZ U s g' w m t c v a)) Q) → mj_R (mj_C (d + 3)) 9 false none iX9_lay (210, [some (.ref 35), some (.int (nI x)), some (.int (nI (10 * x))), some (.int (nI (tPar b x))), some (.int (nI (tFo b x + (bp b - 4 - tPar b x)))), some (.int (nI (tFo b (tAhe b x) + (bp b - 4 - tPar b (tAhe b x))))), some (.int (nI (bp b - 2 - tPar b x))), some (.int (nI k))], [], fbP P (mdZ U s g w m t c v a)) Q
  | 0, k, g, W, hj, hP, kk => by
    have t0 := tb0 hb
    refine mj_b0 40 rfl ?_
    refine mj_brt (nI_le (by omega) (by omega)) ?_
    exact kk g _ W hP (fun _ q => q) (fun i a1 a2 => by omega)
  | j + 1, k, g, W, hj, hP, kk => by
    have t0 := tb0 hb
    have t8 := tb8 hb hx h1 (show k < bp b - 2 - tPar b x by omega)
    have h300 := bn_300 hb
    have hp := tPar_12 hb hx h1
    rw [if_pos hr] at t8
    have e1 : nI (10 * x) + nI (tPar b x) + mj_kc 1 + nI k = nI (x * 10 + (tPar b x + 1 + k)) := by
      show nI (10 * x) + nI (tPar b x) + nI 1 + nI k = _
      rw [nI_add, nI_add, nI_add, show 10 * x + tPar b x + 1 + k = x * 10 + (tPar b x + 1 + k) by omega]
    have e2 : (nI (x * 10 + (tPar b x + 1 + k))).toNatClampNeg = x * 10 + (tPar b x + 1 + k) := nI_clamp (by omega)
    have fin : ∀ z : Int32, z = nv (tAt b x (tPar b x + 1 + k)) → mj_R (mj_C (d + 3)) 9 false none iX9_lay (248, [some (.ref 35), some (.int (nI x)), some (.int (nI (10 * x))), some (.int (nI (tPar b x))), some (.int (nI (tFo b x + (bp b - 4 - tPar b x)))), some (.int (nI (tFo b (tAhe b x) + (bp b - 4 - tPar b (tAhe b x))))), some (.int (nI (bp b - 2 - tPar b x))), some (.int (nI k))], [.int z, .int (nI (10 * x) + nI (tPar b x) + mj_kc 1 + nI k), .ref 43], fbP P (mdZ U s g w m t c v a)) Q := by
      intro z hz
      obtain ⟨ro, fp, op, rs, fo, at_, sd, rg, cl⟩ := g
      have hP2 := hP.put (show tPar b x + 1 + k < 10 by omega) hz
      refine mj_b1 1 rfl (by rw [e1]; exact nI_ix (show x * 10 + (tPar b x + 1 + k) < 4000 by omega) (by omega)) ?_
      refine mj_hq (h' := fbP P (mdZ U s (ro, fp, op, rs, fo, upd at_ (x * 10 + (tPar b x + 1 + k)) z, sd, rg, cl) w m t c v a)) (Eq.trans (b := fbP P (mdZ U s (ro, fp, op, rs, fo, upd at_ (nI (10 * x) + nI (tPar b x) + mj_kc 1 + nI k).toNatClampNeg z, sd, rg, cl) w m t c v a)) rfl (by rw [e1, e2])) ?_
      refine mj_b0 2 rfl ?_
      have ih := lm_child (Q := Q) hb hx h1 hr j (k + 1) _ _ (by omega) hP2 (fun g' y W' b1 b2 b3 => kk g' y W' b1 (fun s q => b2 s (Or.inr q)) (fun i a1 a2 => by
        by_cases e : i = k
        · rw [e]; exact b2 _ (Or.inl rfl)
        · exact b3 i (by omega) a2))
      rw [← nI_add k 1] at ih
      exact ih
    refine mj_b0 40 rfl ?_
    refine mj_brf (nI_ge (by omega) (by omega)) ?_
    refine mj_b0 40 rfl ?_
    have e3 : nI (bp b - 2 - tPar b x) - mj_kc 1 = nI (bp b - 2 - tPar b x - 1) := pk_sub (show 1 ≤ bp b - 2 - tPar b x by omega)
    rw [e3]
    by_cases q : k + 1 = bp b - 2 - tPar b x
    · refine mj_brf (fun z => z (by rw [show k = bp b - 2 - tPar b x - 1 by omega])) ?_
      refine mj_b0 2 rfl ?_
      refine fin _ ?_
      rw [t8.1, if_pos q, nv_is]
      have ta := tb4 hb t8.2.2 (by
        rw [t8.2.1]
        intro z
        have hz := (tb1 hb hx).2.2.1
        have h5 : bRs b (0 + 1) = 1 := (tb5 hb).2.2.2.1
        rw [z, h5] at hz
        omega) (by rw [t8.2.1]; exact hr)
      omega
    · refine mj_brt (fun z => q (by
        have := (nI_eq (show k < 2 ^ 31 by omega) (show bp b - 2 - tPar b x - 1 < 2 ^ 31 by omega)).mp z
        omega)) ?_
      refine mj_b0 3 rfl ?_
      refine fin _ ?_
      have ta := tb4 hb hx (by
        intro z
        have hz := (tb1 hb hx).2.2.1
        have h5 : bRs b (0 + 1) = 1 := (tb5 hb).2.2.2.1
        rw [z, h5] at hz
        omega) hr
      have t7 := tb7 hb hx (by
        intro z
        have hz := (tb1 hb hx).2.2.1
        have h5 : bRs b (0 + 1) = 1 := (tb5 hb).2.2.2.1
        rw [z, h5] at hz
        omega) hr
      have tf : k ≤ tFo b x := by
        have := (tb1 hb hx).2.2.1
        have : 6 ≤ tFo b x := by
          have h2 : bRs b 1 < bRs b 2 := t0.2.2.2.2.2.2.2 1 (by omega)
          have h3 := tb3 hb (by omega)
          have h4 : ∀ (j k : Nat), k = 2 + j → k ≤ br b + 1 → bRs b 2 ≤ bRs b k := by
            intro j
            induction j with
            | zero => intro k hk _; rw [hk]; exact Nat.le_refl _
            | succ j ih =>
              intro k hk hk2
              have a1 := ih (k - 1) (by omega) (by omega)
              have a2 := t0.2.2.2.2.2.2.2 (k - 1) (by omega)
              rw [show k - 1 + 1 = k by omega] at a2
              omega
          have h6 := h4 (tRo b x + 1 - 2) (tRo b x + 1) (by
            have : tRo b x ≠ 0 := by
              intro z
              have hz := (tb1 hb hx).2.2.1
              have h5 : bRs b (0 + 1) = 1 := (tb5 hb).2.2.2.1
              rw [z, h5] at hz
              omega
            omega) (by omega)
          omega
        omega
      rw [pk_sub (by omega), t8.1, if_neg q, nv_is (by omega)]
end ML
