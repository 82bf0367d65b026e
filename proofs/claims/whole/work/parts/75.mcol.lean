/-! promises 23 and 24: the model's rows -/
/-- what becomes of the first row -/
def fiR (m n : Nat) (o : Option (Nat → Nat)) (fi fi' : fA) : Prop := (n ≠ 0 → fi' = fi) ∧ (o = none → fi' = fi) ∧ (n = 0 → ∀ x, o = some x → ∀ i, i < m → fi' i = nI (x i))
theorem fiR.skip {m n : Nat} {o : Option (Nat → Nat)} {fi fi' : fA} (h : fiR m n o fi fi') : fiR m n o fi fi' := h
def orF (o1 o2 : Option (Nat → Nat)) : Option (Nat → Nat) := match o1 with
  | some x => some x
  | none => o2
theorem fiR.then {m n n1 : Nat} {o1 o2 : Option (Nat → Nat)} {fi fi1 fi2 : fA} (h1 : fiR m n o1 fi fi1) (h2 : fiR m (n + n1) o2 fi1 fi2) (hn : o1.isSome = true ↔ 0 < n1) : fiR m n (orF o1 o2) fi fi2 := by
  obtain ⟨a1, a2, a3⟩ := h1
  obtain ⟨b1, b2, b3⟩ := h2
  cases o1 with
  | none =>
    have hz : ¬ 0 < n1 := fun z => by have := hn.mpr z; cases this
    have e := a2 rfl
    subst e
    refine ⟨fun z => b1 (by omega), fun z => b2 z, fun z x hx => b3 (by omega) x hx⟩
  | some x =>
    have hz : 0 < n1 := hn.mp rfl
    have e := b1 (by omega)
    subst e
    refine ⟨fun z => a1 z, fun z => (by cases z), fun z y hy => ?_⟩
    cases hy
    exact a3 z x rfl
section MK
variable {P : fP} {U : fU} {s : fA × fA × fA} {g : fG} {w : fW} {m : fM} {t : fR} {c1 : fA} {v : fA × fA} {a : fA × Int32} {d : Nat}
/-- may it have this colour: all sides -/
theorem lm_may {b k mm c x n : Nat} {r : Nat → Nat} {tr fi : fA} {o7 : Option Value} {Q : Option Value → mj_H → Prop} (hb : b < 22) (h : Bd b g) (hc : c < bn b) (h16 : c < 16) (hr : rwR c r tr) (hx : tr c = nI x) (hx4 : x < 4) (kk : ∀ o7, mj_R (mj_C d) 9 false (some .int) iX9_colourings (124, [some (.ref 35), some (.int (nI mm)), some (.int (nI k)), some (.int (nI n)), some (.int (nI c)), some (.int (bI (okB b r c x))), some (.int (nI (bp b))), o7], [], fbP P (mdZ U s g w m t (c1, tr, fi) v a)) Q) : mj_R (mj_C d) 9 false (some .int) iX9_colourings (51, [some (.ref 35), some (.int (nI mm)), some (.int (nI k)), some (.int (nI n)), some (.int (nI c)), some (.int (nI 1)), some (.int (nI 0)), o7], [], fbP P (mdZ U s g w m t (c1, tr, fi) v a)) Q := by
  have t0 := tb0 hb
  have t1 := tb1 hb hc
  have e1 : (nI c).toNatClampNeg = c := nI_clamp (by omega)
  have ic : vp_in (nI c) 16 := nI_ix h16 (by omega)
  refine mj_itJ (fun q (o : Option Value) => (51, [some (.ref 35), some (.int (nI mm)), some (.int (nI k)), some (.int (nI n)), some (.int (nI c)), some (.int (bI (okS b r c x q))), some (.int (nI q)), o], [], fbP P (mdZ U s g w m t (c1, tr, fi) v a))) (bp b) (fun q o hq ih => ?_) (fun o => ?_) o7
  · have e3 : nI 10 * nI c + nI q = nI (c * 10 + q) := by rw [pk_mul, nI_add, Nat.mul_comm]
    have e4 : (nI (c * 10 + q)).toNatClampNeg = c * 10 + q := nI_clamp (by omega)
    have ih := ih (some (.int (nv (tAt b c q))))
    rw [← nI_add q 1] at ih
    simp only [okS] at ih
    refine mj_b0 40 rfl ?_
    refine mj_brf (by rw [bd_sd h]; exact nI_ge hq (by omega)) ?_
    refine mj_b1 8 rfl (by show vp_in (nI 10 * nI c + nI q) 4000; rw [e3]; exact nI_ix (by omega) (by omega)) ?_
    refine mj_sq (S' := (73, [some (.ref 35), some (.int (nI mm)), some (.int (nI k)), some (.int (nI n)), some (.int (nI c)), some (.int (bI (okS b r c x q))), some (.int (nI q)), o], [.int (nv (tAt b c q))], fbP P (mdZ U s g w m t (c1, tr, fi) v a))) (by
      rw [← bd_at h hc hq, ← e4, ← e3] <;> rfl) ?_
    refine mj_b0 40 rfl ?_
    cases ho : okS b r c x q with
    | false =>
      rw [ho, Bool.false_and] at ih
      refine mj_brt (show bI false = 0 by decide) ?_
      refine mj_b0 4 rfl ?_
      exact ih
    | true =>
      rw [ho, Bool.true_and] at ih
      refine mj_brf (show ¬ bI true = 0 by decide) ?_
      refine mj_b0 40 rfl ?_
      by_cases q1 : tAt b c q = 1023
      · rw [decide_eq_true (Or.inl q1)] at ih
        refine mj_brt (by rw [q1]; rfl) ?_
        refine mj_b0 5 rfl ?_
        exact ih
      · have hx2 : tAt b c q < bn b := ((t1.2.2.2.2.2 q hq).resolve_left q1).1
        refine mj_brf (fun z => q1 ((nv_NO (tAt_lt b c q)).mp z)) ?_
        rw [nv_is q1] at ih ⊢
        refine mj_b0 40 rfl ?_
        by_cases q2 : c ≤ tAt b c q
        · rw [decide_eq_true (Or.inr (Or.inl q2))] at ih
          refine mj_brt (nI_le q2 (by omega)) ?_
          refine mj_b0 5 rfl ?_
          exact ih
        · have q3 : tAt b c q < c := by omega
          have e2 : (nI (tAt b c q)).toNatClampNeg = tAt b c q := nI_clamp (by omega)
          have hrd := hr _ q3
          refine mj_brf (nI_ge q3 (by omega)) ?_
          refine mj_b1 40 rfl (⟨nI_ix (show tAt b c q < 16 by omega) (by omega), ic⟩) ?_
          rw [e1, e2, show (c1, tr, fi).2.1 (tAt b c q) = nI (r (tAt b c q)) from hrd.1, show (c1, tr, fi).2.1 c = nI x from hx]
          by_cases q4 : r (tAt b c q) = x
          · rw [decide_eq_false (fun z => by
              rcases z with z | z | z
              · exact q1 z
              · exact q2 z
              · exact z q4)] at ih
            refine mj_brt (by rw [q4]) ?_
            refine mj_b0 4 rfl ?_
            exact ih
          · rw [decide_eq_true (Or.inr (Or.inr q4))] at ih
            refine mj_brf (fun z => q4 ((nI_eq (by omega) (by omega)).mp z)) ?_
            refine mj_b0 5 rfl ?_
            exact ih
  · refine mj_b0 0 rfl ?_
    refine mj_b0 40 rfl ?_
    refine mj_brt (by rw [bd_sd h]; exact nI_le (by omega) (by omega)) ?_
    exact kk o
/-- a full row: it is the first, or not -/
theorem lm_row {k mm c n : Nat} {x : Nat → Nat} {tr fi : fA} {o5 : Int32} {o6 o7 : Option Value} {Q : Option Value → mj_H → Prop} (h1 : 1 ≤ mm) (hm : mm ≤ 16) (hn : n < 2 ^ 31) (hr : ∀ i, i < mm → tr i = nI (x i)) (kk : ∀ fi' o6, fiR mm n (some x) fi fi' → mj_R (mj_C d) 9 false (some .int) iX9_colourings (189, [some (.ref 35), some (.int (nI mm)), some (.int (nI k)), some (.int (nI n)), some (.int (nI c)), some (.int o5), o6, o7], [], fbP P (mdZ U s g w m t (c1, tr, fi') v a)) Q) : mj_R (mj_C d) 9 false (some .int) iX9_colourings (156, [some (.ref 35), some (.int (nI mm)), some (.int (nI k)), some (.int (nI n)), some (.int (nI c)), some (.int o5), o6, o7], [], fbP P (mdZ U s g w m t (c1, tr, fi) v a)) Q := by
  refine mj_b0 2 rfl ?_
  by_cases q : n = 0
  · subst q
    refine mj_hq (h' := fbP P (mdZ U s g w m t (c1, tr, pf tr fi 0) v a)) (by rw [pf_0]) ?_
    refine mj_iter (fun i => (159, [some (.ref 35), some (.int (nI mm)), some (.int (nI k)), some (.int (nI 0)), some (.int (nI c)), some (.int o5), some (.int (nI i)), o7], [], fbP P (mdZ U s g w m t (c1, tr, pf tr fi i) v a))) mm (fun i hi ih => ?_) ?_
    · have e1 : (nI i).toNatClampNeg = i := nI_clamp (by omega)
      have ii : vp_in (nI i) 16 := nI_ix (show i < 16 by omega) (by omega)
      rw [← nI_add i 1] at ih
      refine mj_b0 40 rfl ?_
      refine mj_brf (nI_ge hi (by omega)) ?_
      refine mj_b0 40 rfl ?_
      refine mj_brf (show ¬ ¬ nI 0 = 0 by decide) ?_
      refine mj_b1 8 rfl (⟨ii, ii⟩) ?_
      refine mj_hq (h' := fbP P (mdZ U s g w m t (c1, tr, pf tr fi (i + 1)) v a)) (Eq.trans (b := fbP P (mdZ U s g w m t (c1, tr, upd (pf tr fi i) (nI i).toNatClampNeg (tr (nI i).toNatClampNeg)) v a)) rfl (by rw [e1, pf_s])) ?_
      refine mj_b0 2 rfl ?_
      exact ih
    · refine mj_b0 40 rfl ?_
      refine mj_brt (nI_le (by omega) (by omega)) ?_
      exact kk _ _ ⟨fun z => absurd rfl z, fun z => (by cases z), fun _ y hy i hi => by
        cases hy
        rw [pf_in hi]
        exact hr i hi⟩
  · refine mj_b0 40 rfl ?_
    refine mj_brf (show ¬ nI mm ≤ nI 0 from nI_ge (by omega) (by omega)) ?_
    refine mj_b0 40 rfl ?_
    refine mj_brt (nI_ne0 (by omega) hn) ?_
    exact kk _ _ ⟨fun _ => rfl, fun z => (by cases z), fun z => absurd z q⟩
theorem m1_p1 (v : Nat) : nI v - nI 1 + nI 1 = nI v := by
  rw [Int32.sub_eq_add_neg, Int32.add_assoc, show -(nI 1) + nI 1 = 0 by decide, Int32.add_zero]
theorem pl_m1 (v : Nat) : nI (v + 1) - nI 1 = nI v := by
  rw [pk_sub (by omega), show v + 1 - 1 = v by omega]
/-- what a colour that may be leads to -/
def Vis (P : fP) (U : fU) (s : fA × fA × fA) (g : fG) (w : fW) (m : fM) (t : fR) (c1 : fA) (v : fA × fA) (a : fA × Int32) (d b k mm : Nat) (Q : Option Value → mj_H → Prop) (j c : Nat) (r : Nat → Nat) : Prop :=
  ∀ (x n : Nat) (tr fi : fA) (o7 : Option Value), x < k → rwR c r tr → tr c = nI x → n + fc b k j (c + 1) (uN r c x) ≤ 2 ^ 30 →
  (∀ (tr' fi' : fA) (o5 o6 o7 : Option Value), (∀ i, i < c → tr' i = tr i) → tr' c = nI x → fiR mm n (fs b k j (c + 1) (uN r c x)) fi fi' → mj_R (mj_C d) 9 false (some .int) iX9_colourings (12, [some (.ref 35), some (.int (nI mm)), some (.int (nI k)), some (.int (nI (n + fc b k j (c + 1) (uN r c x)))), some (.int (nI c)), o5, o6, o7], [], fbP P (mdZ U s g w m t (c1, tr', fi') v a)) Q) →
  mj_R (mj_C d) 9 false (some .int) iX9_colourings (129, [some (.ref 35), some (.int (nI mm)), some (.int (nI k)), some (.int (nI n)), some (.int (nI c)), some (.int (bI true)), some (.int (nI (bp b))), o7], [], fbP P (mdZ U s g w m t (c1, tr, fi) v a)) Q
theorem lm_loop {b k mm j c : Nat} {r : Nat → Nat} {Q : Option Value → mj_H → Prop} (hb : b < 22) (h : Bd b g) (hk1 : 1 ≤ k) (hk : k ≤ 4) (hm : mm ≤ 16) (hmb : mm ≤ bn b) (hc : c + (j + 1) = mm) (hv : Vis P U s g w m t c1 v a d b k mm Q j c r) : ∀ (f x n : Nat) (tr fi : fA) (o5 o6 o7 : Option Value), f + x = k → rwR c r tr → tr c = nI x - nI 1 → n + rgS (okB b r c) (fun y => fc b k j (c + 1) (uN r c y)) f x ≤ 2 ^ 30 → (∀ (tr' fi' : fA) (o5 o6 o7 : Option Value), (∀ i, i < c → tr' i = tr i) → fiR mm n (rgF (okB b r c) (fun y => fs b k j (c + 1) (uN r c y)) f x) fi fi' → mj_R (mj_C d) 9 false (some .int) iX9_colourings (12, [some (.ref 35), some (.int (nI mm)), some (.int (nI k)), some (.int (nI (n + rgS (okB b r c) (fun y => fc b k j (c + 1) (uN r c y)) f x))), some (.int (nI c - nI 1)), o5, o6, o7], [], fbP P (mdZ U s g w m t (c1, tr', fi') v a)) Q) → mj_R (mj_C d) 9 false (some .int) iX9_colourings (12, [some (.ref 35), some (.int (nI mm)), some (.int (nI k)), some (.int (nI n)), some (.int (nI c)), o5, o6, o7], [], fbP P (mdZ U s g w m t (c1, tr, fi) v a)) Q := by
  have t0 := tb0 hb
  have e1 : (nI c).toNatClampNeg = c := nI_clamp (by omega)
  have ic : vp_in (nI c) 16 := nI_ix (show c < 16 by omega) (by omega)
  intro f
  induction f with
  | zero =>
    intro x n tr fi o5 o6 o7 hf hr ht hn kk
    have ek : x = k := by omega
    subst ek
    have k2 := kk (upd tr c (nI x)) fi o5 o6 o7 (fun i hi => pk_un (by omega)) ⟨fun _ => rfl, fun _ => rfl, fun _ y hy => (by cases hy)⟩
    refine mj_b0 40 rfl ?_
    refine mj_brf (nI_pos (by omega)) ?_
    refine mj_b1 8 rfl (⟨ic, ic⟩) ?_
    refine mj_hq (h' := fbP P (mdZ U s g w m t (c1, upd tr c (nI x), fi) v a)) (Eq.trans (b := fbP P (mdZ U s g w m t (c1, upd tr (nI c).toNatClampNeg (tr (nI c).toNatClampNeg + nI 1), fi) v a)) rfl (by rw [e1, ht, m1_p1])) ?_
    refine mj_b1 40 rfl (ic) ?_
    rw [e1]
    refine mj_brf (fun z => z pk_us) ?_
    refine mj_b0 2 rfl ?_
    rw [Int32.sub_eq_add_neg] at k2
    exact k2
  | succ f ih =>
    intro x n tr fi o5 o6 o7 hf hr ht hn kk
    have hx4 : x < 4 := by omega
    have hr1 : rwR c r (upd tr c (nI x)) := fun i hi => by rw [pk_un (by omega)]; exact hr i hi
    have hx1 : upd tr c (nI x) c = nI x := pk_us
    refine mj_b0 40 rfl ?_
    refine mj_brf (nI_pos (by omega)) ?_
    refine mj_b1 8 rfl (⟨ic, ic⟩) ?_
    refine mj_hq (h' := fbP P (mdZ U s g w m t (c1, upd tr c (nI x), fi) v a)) (Eq.trans (b := fbP P (mdZ U s g w m t (c1, upd tr (nI c).toNatClampNeg (tr (nI c).toNatClampNeg + nI 1), fi) v a)) rfl (by rw [e1, ht, m1_p1])) ?_
    refine mj_b1 40 rfl (ic) ?_
    rw [e1, show (c1, upd tr c (nI x), fi).2.1 c = nI x from pk_us]
    refine mj_brt (fun z => by have := (nI_eq (by omega) (by omega)).mp z; omega) ?_
    refine mj_b0 4 rfl ?_
    refine lm_may hb h (by omega) (by omega) hr1 hx1 hx4 (fun o7 => ?_)
    simp only [rgS, rgF] at kk hn
    refine mj_b0 40 rfl ?_
    cases hok : okB b r c x with
    | false =>
      rw [hok] at kk hn
      have hn' : n + rgS (okB b r c) (fun y => fc b k j (c + 1) (uN r c y)) f (x + 1) ≤ 2 ^ 30 := by
        have hn2 : n + (0 + rgS (okB b r c) (fun y => fc b k j (c + 1) (uN r c y)) f (x + 1)) ≤ 2 ^ 30 := hn
        omega
      refine mj_brt (show bI false = 0 by decide) ?_
      refine mj_b0 40 rfl ?_
      refine mj_brt (show bI false = 0 by decide) ?_
      refine mj_b0 1 rfl ?_
      refine ih (x + 1) n (upd tr c (nI x)) fi _ _ _ (by omega) hr1 (by rw [hx1, pl_m1]) hn' (fun tr' fi' o5 o6 o7 a1 a2 => ?_)
      have k2 := kk tr' fi' o5 o6 o7 (fun i hi => by rw [a1 i hi, pk_un (by omega)]) a2
      have e : n + (cond false (fc b k j (c + 1) (uN r c x)) 0 + rgS (okB b r c) (fun y => fc b k j (c + 1) (uN r c y)) f (x + 1)) = n + rgS (okB b r c) (fun y => fc b k j (c + 1) (uN r c y)) f (x + 1) := by
        show n + (0 + _) = _
        omega
      rw [e] at k2
      exact k2
    | true =>
      rw [hok] at kk hn
      have hn2 : n + (fc b k j (c + 1) (uN r c x) + rgS (okB b r c) (fun y => fc b k j (c + 1) (uN r c y)) f (x + 1)) ≤ 2 ^ 30 := hn
      refine mj_brf (show ¬ bI true = 0 by decide) ?_
      refine hv x n (upd tr c (nI x)) fi o7 (by omega) hr1 hx1 (by omega) (fun tr2 fi2 o5 o6 o7 a1 a2 a3 => ?_)
      have hr2 : rwR c r tr2 := fun i hi => by rw [a1 i hi]; exact hr1 i hi
      refine ih (x + 1) (n + fc b k j (c + 1) (uN r c x)) tr2 fi2 _ _ _ (by omega) hr2 (by rw [a2, pl_m1]) (by omega) (fun tr' fi' o5 o6 o7 b1 b2 => ?_)
      have k2 := kk tr' fi' o5 o6 o7 (fun i hi => by rw [b1 i hi, a1 i hi, pk_un (by omega)]) (a3.then b2 (fs_some j (c + 1) (uN r c x)))
      have e : n + (cond true (fc b k j (c + 1) (uN r c x)) 0 + rgS (okB b r c) (fun y => fc b k j (c + 1) (uN r c y)) f (x + 1)) = n + fc b k j (c + 1) (uN r c x) + rgS (okB b r c) (fun y => fc b k j (c + 1) (uN r c y)) f (x + 1) := by
        show n + (fc b k j (c + 1) (uN r c x) + _) = _
        omega
      rw [e] at k2
      exact k2
theorem vis {b k mm : Nat} {Q : Option Value → mj_H → Prop} (hb : b < 22) (h : Bd b g) (hk1 : 1 ≤ k) (hk : k ≤ 4) (hm : mm ≤ 16) (hmb : mm ≤ bn b) : ∀ (j c : Nat) (r : Nat → Nat), c + (j + 1) = mm → Vis P U s g w m t c1 v a d b k mm Q j c r := by
  have t0 := tb0 hb
  intro j
  induction j with
  | zero =>
    intro c r hc x n tr fi o7 hx hr ht hn kk
    have hn' : n + 1 ≤ 2 ^ 30 := hn
    refine mj_b0 40 rfl ?_
    rw [show nI c + mj_kc 1 = nI (c + 1) from nI_add c 1]
    refine mj_brt (nI_le (by omega) (by omega)) ?_
    refine mj_b0 40 rfl ?_
    refine mj_brf (show ¬ bI true = 0 by decide) ?_
    refine lm_row (x := uN r c x) (by omega) hm (by omega) (fun i hi => ?_) (fun fi' o6 hfi => ?_)
    · by_cases e : i = c
      · rw [e, uN_s]; exact ht
      · rw [uN_n e]
        exact (hr i (by omega)).1
    · have k2 := kk tr fi' (some (.int (bI true))) o6 o7 (fun _ _ => rfl) ht hfi
      have k3 : mj_R (mj_C d) 9 false (some .int) iX9_colourings (12, [some (.ref 35), some (.int (nI mm)), some (.int (nI k)), some (.int (nI (n + 1))), some (.int (nI c)), some (.int (bI true)), o6, o7], [], fbP P (mdZ U s g w m t (c1, tr, fi') v a)) Q := k2
      rw [← nI_add n 1] at k3
      refine mj_b0 2 rfl ?_
      exact k3
  | succ j IH =>
    intro c r hc x n tr fi o7 hx hr ht hn kk
    have e1 : (nI (c + 1)).toNatClampNeg = c + 1 := nI_clamp (by omega)
    have ec : nI c + mj_kc 1 = nI (c + 1) := nI_add c 1
    have hr2 : rwR (c + 1) (uN r c x) (upd tr (c + 1) (-(nI 1))) := by
      intro i hi
      rw [pk_un (by omega)]
      by_cases e : i = c
      · rw [e, uN_s]; exact ⟨ht, by omega⟩
      · rw [uN_n e]
        exact hr i (by omega)
    refine mj_b0 40 rfl ?_
    rw [ec]
    refine mj_brf (nI_ge (by omega) (by omega)) ?_
    refine mj_b0 1 rfl ?_
    rw [ec]
    refine mj_b1 7 rfl (nI_ix (show c + 1 < 16 by omega) (by omega)) ?_
    refine mj_hq (h' := fbP P (mdZ U s g w m t (c1, upd tr (c + 1) (-(nI 1)), fi) v a)) (Eq.trans (b := fbP P (mdZ U s g w m t (c1, upd tr (nI (c + 1)).toNatClampNeg (-(nI 1)), fi) v a)) rfl (by rw [e1])) ?_
    refine lm_loop hb h hk1 hk hm hmb (show c + 1 + (j + 1) = mm by omega) (IH (c + 1) (uN r c x) (by omega)) k 0 n (upd tr (c + 1) (-(nI 1))) fi _ _ _ (by omega) hr2 (by rw [pk_us]; decide) hn (fun tr' fi' o5 o6 o7 a1 a2 => ?_)
    rw [pl_m1]
    refine kk tr' fi' o5 o6 o7 (fun i hi => by rw [a1 i (by omega), pk_un (by omega)]) ?_ a2
    rw [a1 c (by omega), pk_un (by omega)]
    exact ht
theorem x_colourings {b k mm : Nat} {tr fi : fA} (hb : b < 22) (h : Bd b g) (hk1 : 1 ≤ k) (hk : k ≤ 4) (hm1 : 1 ≤ mm) (hm : mm ≤ 16) (hmb : mm ≤ bn b) (r : Nat → Nat) : ∃ tr' fi', (∀ x, fs b k mm 0 r = some x → ∀ i, i < mm → fi' i = nI (x i)) ∧ mj_C (d + 1) nX9_colourings [.ref 35, .int (nI mm), .int (nI k)] (fbP P (mdZ U s g w m t (c1, tr, fi) v a)) (some (.int (nI (fc b k mm 0 r)))) (fbP P (mdZ U s g w m t (c1, tr', fi') v a)) := by
  have t0 := tb0 hb
  obtain ⟨j, rfl⟩ : ∃ j, mm = j + 1 := ⟨mm - 1, by omega⟩
  have kk : ∃ r2 h2, mj_C (d + 1) nX9_colourings [.ref 35, .int (nI (j + 1)), .int (nI k)] (fbP P (mdZ U s g w m t (c1, tr, fi) v a)) r2 h2 ∧ (r2 = some (.int (nI (fc b k (j + 1) 0 r))) ∧ ∃ tr' fi', (∀ x, fs b k (j + 1) 0 r = some x → ∀ i, i < j + 1 → fi' i = nI (x i)) ∧ h2 = fbP P (mdZ U s g w m t (c1, tr', fi') v a)) := by
    refine mj_C.ex rfl rfl rfl ?_
    refine mj_b1 9 rfl (show vp_in (nI 0) 16 from nI_ix (by omega) (by omega)) ?_
    refine mj_hq (h' := fbP P (mdZ U s g w m t (c1, upd tr 0 (-(nI 1)), fi) v a)) rfl ?_
    refine lm_loop hb h hk1 hk hm hmb (j := j) (c := 0) (r := r) (show 0 + (j + 1) = j + 1 by omega) (vis hb h hk1 hk hm hmb j 0 r (by omega)) k 0 0 (upd tr 0 (-(nI 1))) fi _ _ _ (by omega) (fun i hi => absurd hi (by omega)) (by rw [pk_us]; decide) (by rw [Nat.zero_add]; exact fc_top (m := j + 1) hb hk (by omega) hm hmb) (fun tr' fi' o5 o6 o7 a1 a2 => ?_)
    refine mj_b0 40 rfl ?_
    refine mj_brt (show nI 0 - nI 1 < 0 by decide) ?_
    refine mj_b0 40 rfl ?_
    exact mj_end rfl rfl trivial ⟨by rw [Nat.zero_add]; rfl, tr', fi', fun x hx => a2.2.2 rfl x hx, rfl⟩
  obtain ⟨r2, h2, k1, rfl, tr', fi', k2, rfl⟩ := kk
  exact ⟨tr', fi', k2, k1⟩
end MK
