/-! promises 23 and 24: the class's rows -/
theorem sl_bit : ∀ a, a < 16 → f_ishl (nI 1) (nI a) = nI (2 ^ a) := by decide +kernel
theorem sr_bit : ∀ a, a < 16 → ((nI a &&& 31).toBitVec.smod 32).toNat = a := by decide +kernel
theorem p16 {a : Nat} (h : a ≤ 16) : 2 ^ a ≤ 65536 := Nat.pow_le_pow_right (n := 2) (by omega) h
theorem nI_and {x y : Nat} (h : x < 2 ^ 31) (h2 : y < 2 ^ 31) : nI x &&& nI y = nI (x &&& y) := by
  apply Int32.toBitVec_inj.mp
  apply BitVec.eq_of_toNat_eq
  have h3 : x &&& y ≤ x := Nat.and_le_left
  rw [Int32.toBitVec_and, BitVec.toNat_and, pk_tn (by omega), pk_tn (by omega), pk_tn (by omega)]
theorem nI_or {x y : Nat} (h : x < 2 ^ 31) (h2 : y < 2 ^ 31) : nI x ||| nI y = nI (x ||| y) := by
  apply Int32.toBitVec_inj.mp
  apply BitVec.eq_of_toNat_eq
  have h3 : x ||| y < 2 ^ 31 := Nat.or_lt_two_pow h h2
  rw [Int32.toBitVec_or, BitVec.toNat_or, pk_tn (by omega), pk_tn (by omega), pk_tn (by omega)]
theorem sh_bit {x i : Nat} (h : x < 2 ^ 31) (hi : i < 16) : f_ishr (nI x) (nI i) &&& nI 1 = nI (x / 2 ^ i % 2) := by
  have e : f_ishr (nI x) (nI i) = nI (x / 2 ^ i) := pk_shrN h (nI i &&& 31) i (sr_bit i hi)
  have h2 : x / 2 ^ i ≤ x := Nat.div_le_self _ _
  rw [e, pk_andN (by omega) 1 (by decide)]
/-- a bit for each earlier CELL at a side, s sides looked at -/
def ev (b c : Nat) : Nat → Nat
  | 0 => 0
  | s + 1 => if tAt b c s < c then ev b c s ||| 2 ^ tAt b c s else ev b c s
/-- a bit for each CELL below c that has the colour -/
def hv (r : Nat → Nat) (v : Nat) : Nat → Nat
  | 0 => 0
  | c + 1 => hv r v c + (if r c = v then 2 ^ c else 0)
theorem ev_lt {b c : Nat} : ∀ s, ev b c s < 2 ^ c
  | 0 => Nat.two_pow_pos c
  | s + 1 => by
    have ih := ev_lt (b := b) (c := c) s
    simp only [ev]
    by_cases q : tAt b c s < c
    · rw [if_pos q]
      exact Nat.or_lt_two_pow ih (Nat.pow_lt_pow_right (by omega) q)
    · rw [if_neg q]
      exact ih
theorem hv_lt {r : Nat → Nat} {v : Nat} : ∀ c, hv r v c < 2 ^ c
  | 0 => Nat.two_pow_pos 0
  | c + 1 => by
    have ih := hv_lt (r := r) (v := v) c
    simp only [hv]
    rw [Nat.pow_succ]
    split <;> omega
theorem hv_bit {r : Nat → Nat} {v i : Nat} : ∀ c, i < c → (hv r v c).testBit i = decide (r i = v)
  | 0, h => absurd h (Nat.not_lt_zero i)
  | c + 1, h => by
    have hl := hv_lt (r := r) (v := v) c
    simp only [hv]
    by_cases e : i = c
    · subst e
      by_cases q : r i = v
      · rw [if_pos q, Nat.add_comm, Nat.testBit_two_pow_add_eq, Nat.testBit_lt_two_pow hl, decide_eq_true q]
        rfl
      · rw [if_neg q, Nat.add_zero, Nat.testBit_lt_two_pow hl, decide_eq_false q]
    · have ih := hv_bit (r := r) (v := v) (i := i) c (by omega)
      by_cases q : r c = v
      · rw [if_pos q, Nat.add_comm, Nat.testBit_two_pow_add_gt (by omega), ih]
      · rw [if_neg q, Nat.add_zero, ih]
theorem hv_cong {r r' : Nat → Nat} {v : Nat} : ∀ c, (∀ i, i < c → r i = r' i) → hv r v c = hv r' v c
  | 0, _ => rfl
  | c + 1, h => by
    simp only [hv]
    rw [hv_cong c (fun i hi => h i (by omega)), h c (by omega)]
theorem hv_put {r : Nat → Nat} {v w c : Nat} : hv (uN r c v) w (c + 1) = hv r w c + (if v = w then 2 ^ c else 0) := by
  simp only [hv]
  rw [uN_s, hv_cong c (fun i hi => uN_n (show i ≠ c by omega))]
theorem and_bit {x h : Nat} : 2 ^ x &&& h = 0 ↔ h.testBit x = false := by
  constructor
  · intro e
    have e2 := congrArg (fun z => Nat.testBit z x) e
    simp only [Nat.testBit_and, Nat.testBit_two_pow_self, Nat.zero_testBit, Bool.true_and] at e2
    exact e2
  · intro e
    apply Nat.eq_of_testBit_eq
    intro i
    rw [Nat.testBit_and, Nat.zero_testBit]
    by_cases q : x = i
    · rw [← q, e, Bool.and_false]
    · rw [Nat.testBit_two_pow_of_ne q, Bool.false_and]
theorem ev_ok {b c v : Nat} {r : Nat → Nat} (hc : c < 16) : ∀ s, ev b c s &&& hv r v c = 0 ↔ okS b r c v s = true
  | 0 => by
    show 0 &&& _ = 0 ↔ true = true
    rw [Nat.zero_and]
    exact ⟨fun _ => rfl, fun _ => rfl⟩
  | s + 1 => by
    have ih := ev_ok (b := b) (v := v) (r := r) hc s
    simp only [ev, okS]
    by_cases q : tAt b c s < c
    · rw [if_pos q, Nat.and_or_distrib_right, Nat.or_eq_zero_iff, ih, and_bit, hv_bit c q, decide_eq_false_iff_not, Bool.and_eq_true, decide_eq_true_iff]
      refine ⟨fun z => ⟨z.1, Or.inr (Or.inr z.2)⟩, fun z => ⟨z.1, ?_⟩⟩
      rcases z.2 with y | y | y
      · omega
      · omega
      · exact y
    · rw [if_neg q, ih, Bool.and_eq_true, decide_eq_true_iff]
      exact ⟨fun z => ⟨z, Or.inr (Or.inl (by omega))⟩, fun z => z.1⟩
def rwR (c : Nat) (r : Nat → Nat) (R : fA) : Prop := ∀ i, i < c → R i = nI (r i) ∧ r i < 4
theorem rwR.put {c v : Nat} {r : Nat → Nat} {R : fA} (h : rwR c r R) (hv : v < 4) : rwR (c + 1) (uN r c v) (upd R c (nI v)) := by
  intro i hi
  by_cases e : i = c
  · rw [e, pk_us, uN_s]
    exact ⟨rfl, hv⟩
  · rw [pk_un e, uN_n e]
    exact h i (by omega)
/-- the class's bits -/
def eaR (b m : Nat) (E : fA) : Prop := ∀ c, c < m → E c = nI (ev b c (bp b))
def haR (r : Nat → Nat) (c : Nat) (H : fA) : Prop := ∀ v, v < 4 → H v = nI (hv r v c)
theorem haR.put {r : Nat → Nat} {c v : Nat} {H : fA} (h : haR r c H) (hv4 : v < 4) : haR (uN r c v) (c + 1) (upd H v (nI (hv r v c + 2 ^ c))) := by
  intro w hw
  rw [hv_put]
  by_cases e : w = v
  · subst e
    rw [pk_us, if_pos rfl]
  · rw [pk_un e, if_neg (fun z => e z.symm), Nat.add_zero]
    exact h w hw
theorem upd_back {f : fA} {v : Nat} {y x : Int32} (h : x = f v) : upd (upd f v y) v x = f := by
  funext i
  by_cases e : i = v
  · rw [e, pk_us, h]
  · rw [pk_un e, pk_un e]
section CK
variable {sc : mj_E} {F : Int32 × Int32} {S : fA × fA × fA} {G : fG} {Y : fY} {M : fM} {T : fT} {C1 : fA} {V : fV} {A : fA × Int32} {Z : mj_H} {d : Nat}
theorem x_prepare {b m : Nat} {E H : fA} (hb : b < 22) (h : Bd b G) (hm : m ≤ 16) (hmb : m ≤ bn b) : ∃ E' H', eaR b m E' ∧ haR (fun _ => 0) 0 H' ∧ mj_C (d + 2) nX1_prepare [.ref 26, .int (nI m)] (fbH sc F S G Y M T (C1, E, H) V A Z) none (fbH sc F S G Y M T (C1, E', H') V A Z) := by
  have t0 := tb0 hb
  have kk : ∃ r2 h2, mj_C (d + 2) nX1_prepare [.ref 26, .int (nI m)] (fbH sc F S G Y M T (C1, E, H) V A Z) r2 h2 ∧ (r2 = none ∧ ∃ E', eaR b m E' ∧ h2 = fbH sc F S G Y M T (C1, E', fl 4 (nI 0) H) V A Z) := by
    refine mj_C.ex rfl rfl rfl ?_
    refine mj_b0 40 rfl ?_
    refine mj_cS rfl rfl rfl rfl (c_fill (nI 0) (by omega) (a := 29) (n := 4) (f := H) rfl) ?_
    refine mj_hq (h' := fbH sc F S G Y M T (C1, E, fl 4 (nI 0) H) V A Z) rfl ?_
    refine mj_b0 2 rfl ?_
    refine mj_itI (fun c (o : fA × Option Value × Option Value) => ∀ c', c' < c → o.1 c' = nI (ev b c' (bp b))) (fun c (o : fA × Option Value × Option Value) => (10, [some (.ref 26), some (.int (nI m)), some (.int (nI c)), o.2.1, o.2.2], [], fbH sc F S G Y M T (C1, o.1, fl 4 (nI 0) H) V A Z)) m (fun c o hc hI ih => ?_) (fun o hI => ?_) (E, none, none) (fun c' hc' => absurd hc' (Nat.not_lt_zero c'))
    · obtain ⟨E, o1, o2⟩ := o
      have hI : ∀ c', c' < c → E c' = nI (ev b c' (bp b)) := hI
      have hcb : c < bn b := by omega
      have ts := st_lt hb hcb
      have e1 : (nI c).toNatClampNeg = c := nI_clamp (by omega)
      have e2 : nI c + mj_kc 1 = nI (c + 1) := nI_add c 1
      have e3 : (nI (c + 1)).toNatClampNeg = c + 1 := nI_clamp (by omega)
      have i1 : vp_in (nI c) 401 := nI_ix (show c < 401 by omega) (by omega)
      have i2 : vp_in (nI c + mj_kc 1) 401 := by rw [e2]; exact nI_ix (show c + 1 < 401 by omega) (by omega)
      have i5 : vp_in (nI c) 16 := nI_ix (show c < 16 by omega) (by omega)
      have hX : ∀ s, s < bp b → tAt b c s = 1023 → ev b c (s + 1) = ev b c s := fun s _ q => by
        simp only [ev]
        rw [if_neg (by omega)]
      have x0 := nbp_0 hb hcb (ev b c) hX
      refine mj_b0 40 rfl ?_
      refine mj_brf (nI_ge hc (by omega)) ?_
      refine mj_b0 40 rfl ?_
      refine mj_brf (show ¬ nI 16 ≤ nI c from nI_ge (by omega) (by omega)) ?_
      refine mj_b1 5 rfl (i5) ?_
      refine mj_hq (h' := fbH sc F S G Y M T (C1, upd E (nI c).toNatClampNeg (nI 0), fl 4 (nI 0) H) V A Z) rfl ?_
      rw [e1]
      refine mj_b1 6 rfl (i1) ?_
      rw [e1, h.st hcb]
      refine mj_itI (fun i (o : fA × Option Value) => o.1 c = nI (ev b c (nbp b c i)) ∧ ∀ c', c' < c → o.1 c' = nI (ev b c' (bp b))) (fun i (o : fA × Option Value) => (38, [some (.ref 26), some (.int (nI m)), some (.int (nI c)), some (.int (nI (tSt b c + i))), o.2], [], fbH sc F S G Y M T (C1, o.1, fl 4 (nI 0) H) V A Z)) (tDg b c) (fun i o hi hJ iq => ?_) (fun o hJ => ?_) (upd E c (nI 0), o2) ⟨by rw [x0]; exact pk_us, fun c' hc' => by
        show upd E c (nI 0) c' = _
        rw [pk_un (by omega)]
        exact hI c' hc'⟩
      · obtain ⟨E, o2⟩ := o
        obtain ⟨hJ1, hJ2⟩ := hJ
        have hJ1 : E c = nI (ev b c (nbp b c i)) := hJ1
        have hJ2 : ∀ c', c' < c → E c' = nI (ev b c' (bp b)) := hJ2
        obtain ⟨s, hs, e6, e7, e8⟩ := nbp_n hb hcb (ev b c) hX hi
        have ok := tNb_ok hb hcb hi
        have e4 : (nI (tSt b c + i)).toNatClampNeg = tSt b c + i := nI_clamp (by omega)
        have i3 : vp_in (nI (tSt b c + i)) 2400 := nI_ix (show tSt b c + i < 2400 by omega) (by omega)
        have el := ev_lt (b := b) (c := c) s
        have pc := p16 (show c ≤ 16 by omega)
        rw [e7] at hJ1
        have fin : ∀ (x : Nat), nI (ev b c s) ||| nI x = nI (ev b c (s + 1)) → mj_R (mj_C (d + 1)) 1 false none iX1_prepare (85, [some (.ref 26), some (.int (nI m)), some (.int (nI c)), some (.int (nI (tSt b c + i))), some (.int (nI (tNb b c i)))], [.int (nI x), .int (E c), .int (nI c), .ref 28], fbH sc F S G Y M T (C1, E, fl 4 (nI 0) H) V A Z) (fun r2 h2 => r2 = none ∧ ∃ E', eaR b m E' ∧ h2 = fbH sc F S G Y M T (C1, E', fl 4 (nI 0) H) V A Z) := by
          intro x hx
          refine mj_b1 2 rfl (i5) ?_
          refine mj_hq (h' := fbH sc F S G Y M T (C1, upd E (nI c).toNatClampNeg (E c ||| nI x), fl 4 (nI 0) H) V A Z) rfl ?_
          rw [e1, hJ1, hx, ← e8]
          have iq := iq (upd E c (nI (ev b c (nbp b c (i + 1)))), some (.int (nI (tNb b c i)))) ⟨pk_us, fun c' hc' => by
            show upd E c _ c' = _
            rw [pk_un (by omega)]
            exact hJ2 c' hc'⟩
          rw [← Nat.add_assoc (tSt b c) i 1, ← nI_add (tSt b c + i) 1] at iq
          refine mj_b0 2 rfl ?_
          exact iq
        refine mj_b1 40 rfl (i2) ?_
        rw [e2, e3, h.sn hcb]
        refine mj_brf (nI_ge (by omega) (by omega)) ?_
        refine mj_b1 6 rfl (i3) ?_
        rw [e4, h.nb hcb hi]
        refine mj_b1 40 rfl (i5) ?_
        rw [e1]
        by_cases q : tNb b c i < c
        · refine mj_brf (nI_ge q (by omega)) ?_
          refine mj_b0 4 rfl ?_
          have e9 : f_ishl (mj_kc 1) (nI (tNb b c i)) = nI (2 ^ tNb b c i) := sl_bit _ (by omega)
          rw [e9]
          have p2 := p16 (show tNb b c i ≤ 16 by omega)
          refine fin _ ?_
          rw [nI_or (by omega) (by omega)]
          simp only [ev]
          rw [e6, if_pos q]
        · refine mj_brt (nI_le (by omega) (by omega)) ?_
          refine mj_b0 1 rfl ?_
          refine fin 0 ?_
          rw [nI_or (by omega) (by omega), Nat.or_zero]
          simp only [ev]
          rw [e6, if_neg q]
      · obtain ⟨E, o2⟩ := o
        obtain ⟨hJ1, hJ2⟩ := hJ
        have hJ1 : E c = nI (ev b c (nbp b c (tDg b c))) := hJ1
        have hJ2 : ∀ c', c' < c → E c' = nI (ev b c' (bp b)) := hJ2
        rw [nbp_end] at hJ1
        have ih := ih (E, some (.int (nI (tSt b c + tDg b c))), o2) (fun c' hc' => by
          show E c' = _
          by_cases e : c' = c
          · rw [e]; exact hJ1
          · exact hJ2 c' (by omega))
        rw [← nI_add c 1] at ih
        refine mj_b1 40 rfl (i2) ?_
        rw [e2, e3, h.sn hcb]
        refine mj_brt (nI_le (Nat.le_refl _) (by omega)) ?_
        refine mj_b0 2 rfl ?_
        exact ih
    · refine mj_b0 40 rfl ?_
      refine mj_brt (nI_le (Nat.le_refl _) (by omega)) ?_
      exact mj_end rfl rfl trivial ⟨rfl, o.1, hI, rfl⟩
  obtain ⟨r2, h2, k1, rfl, E', k2, rfl⟩ := kk
  exact ⟨E', _, k2, fun v hv4 => if_pos hv4, k1⟩
theorem x_countFrom {b k m : Nat} {E : fA} (hE : eaR b m E) (hk1 : 1 ≤ k) (hk : k ≤ 4) (hm : m ≤ 16) : ∀ (j c : Nat) (r : Nat → Nat) (u : Nat) (H : fA), c + j = m → haR r c H → u ≤ k → mj_C (d + 3 + j) nX1_countFrom [.ref 28, .ref 29, .int (nI c), .int (nI m), .int (nI k), .int (nI u)] (fbH sc F S G Y M T (C1, E, H) V A Z) (some (.int (nI (ct b k j c r u)))) (fbH sc F S G Y M T (C1, E, H) V A Z) := by
  intro j
  induction j with
  | zero =>
    intro c r u H hc hr hu
    refine mj_C.of rfl rfl rfl ?_
    refine mj_b0 40 rfl ?_
    refine mj_brt (nI_le (by omega) (by omega)) ?_
    refine mj_b0 40 rfl ?_
    exact mj_end rfl rfl trivial ⟨rfl, rfl⟩
  | succ j IH =>
    intro c r u H hc hr hu
    have hcm : c < m := by omega
    have e1 : (nI c).toNatClampNeg = c := nI_clamp (by omega)
    have hec : E c = nI (ev b c (bp b)) := hE c hcm
    have el := ev_lt (b := b) (c := c) (bp b)
    have pc := p16 (show c ≤ 16 by omega)
    have main : ∀ (f v acc : Nat) (o8 o9 : Option Value), f + v = min (u + 1) k → mj_R (mj_C (d + 3 + j)) 1 false (some .int) iX1_countFrom (19, [some (.ref 28), some (.ref 29), some (.int (nI c)), some (.int (nI m)), some (.int (nI k)), some (.int (nI u)), some (.int (nI acc)), some (.int (nI v)), o8, o9], [], fbH sc F S G Y M T (C1, E, H) V A Z) (fun r2 h2 => r2 = some (.int (nI (acc + rgS (okB b r c) (fun v => if v = u then (k - u) * ct b k j (c + 1) (uN r c v) (u + 1) else ct b k j (c + 1) (uN r c v) u) f v))) ∧ h2 = fbH sc F S G Y M T (C1, E, H) V A Z) := by
      intro f
      induction f with
      | zero =>
        intro v acc o8 o9 hf
        refine mj_b0 40 rfl ?_
        by_cases q : u < v
        · refine mj_brt (nI_lt q (by omega)) ?_
          refine mj_b0 40 rfl ?_
          exact mj_end rfl rfl trivial ⟨rfl, rfl⟩
        · refine mj_brf (nI_nlt (by omega) (by omega)) ?_
          refine mj_b0 40 rfl ?_
          refine mj_brt (nI_le (by omega) (by omega)) ?_
          refine mj_b0 40 rfl ?_
          exact mj_end rfl rfl trivial ⟨rfl, rfl⟩
      | succ f ih =>
        intro v acc o8 o9 hf
        have hvk : v < k := by omega
        have hv4 : v < 4 := by omega
        have e5 : (nI v).toNatClampNeg = v := nI_clamp (by omega)
        have i4 : vp_in (nI v) 4 := nI_ix hv4 (by omega)
        have hl := hv_lt (r := r) (v := v) c
        have hHv : H v = nI (hv r v c) := hr v hv4
        have hle : ev b c (bp b) &&& hv r v c ≤ ev b c (bp b) := Nat.and_le_left
        have hok := ev_ok (b := b) (v := v) (r := r) (show c < 16 by omega) (bp b)
        refine mj_b0 40 rfl ?_
        refine mj_brf (nI_nlt (by omega) (by omega)) ?_
        refine mj_b0 40 rfl ?_
        refine mj_brf (nI_ge hvk (by omega)) ?_
        refine mj_b1 40 rfl (⟨nI_ix (show c < 16 by omega) (by omega), i4⟩) ?_
        rw [e1, e5, show (C1, E, H).2.1 c = nI (ev b c (bp b)) from hec, show (C1, E, H).2.2 v = nI (hv r v c) from hHv, nI_and (by omega) (by omega)]
        simp only [rgS]
        by_cases q : okB b r c v = true
        · have q2 : ev b c (bp b) &&& hv r v c = 0 := hok.mpr q
          have sl : f_ishl (mj_kc 1) (nI c) = nI (2 ^ c) := sl_bit c (by omega)
          rw [q]
          refine mj_brf (by rw [q2]; exact (show ¬ ¬ nI 0 = 0 by decide)) ?_
          have post : ∀ (fr : Nat), (fr = 1 ∧ v = u) ∨ (fr = 0 ∧ v ≠ u) → mj_R (mj_C (d + 3 + j)) 1 false (some .int) iX1_countFrom (56, [some (.ref 28), some (.ref 29), some (.int (nI c)), some (.int (nI m)), some (.int (nI k)), some (.int (nI u)), some (.int (nI acc)), some (.int (nI v)), o8, o9], [.int (nI fr)], fbH sc F S G Y M T (C1, E, H) V A Z) (fun r2 h2 => r2 = some (.int (nI (acc + (cond true (if v = u then (k - u) * ct b k j (c + 1) (uN r c v) (u + 1) else ct b k j (c + 1) (uN r c v) u) 0 + rgS (okB b r c) (fun v => if v = u then (k - u) * ct b k j (c + 1) (uN r c v) (u + 1) else ct b k j (c + 1) (uN r c v) u) f (v + 1))))) ∧ h2 = fbH sc F S G Y M T (C1, E, H) V A Z) := by
            intro fr hfr
            refine mj_b1 10 rfl (⟨i4, i4⟩) ?_
            refine mj_hq (h' := fbH sc F S G Y M T (C1, E, upd H v (nI (hv r v c + 2 ^ c))) V A Z) (Eq.trans (b := fbH sc F S G Y M T (C1, E, upd H (nI v).toNatClampNeg (H (nI v).toNatClampNeg + f_ishl (mj_kc 1) (nI c))) V A Z) rfl (by rw [e5, hHv, sl, nI_add])) ?_
            have back : ∀ (x : Nat), mj_R (mj_C (d + 3 + j)) 1 false (some .int) iX1_countFrom (105, [some (.ref 28), some (.ref 29), some (.int (nI c)), some (.int (nI m)), some (.int (nI k)), some (.int (nI u)), some (.int (nI acc)), some (.int (nI v)), some (.int (nI fr)), some (.int (nI x))], [], fbH sc F S G Y M T (C1, E, H) V A Z) (fun r2 h2 => r2 = some (.int (nI (acc + (cond true (if v = u then (k - u) * ct b k j (c + 1) (uN r c v) (u + 1) else ct b k j (c + 1) (uN r c v) u) 0 + rgS (okB b r c) (fun v => if v = u then (k - u) * ct b k j (c + 1) (uN r c v) (u + 1) else ct b k j (c + 1) (uN r c v) u) f (v + 1))))) ∧ h2 = fbH sc F S G Y M T (C1, E, H) V A Z) → mj_R (mj_C (d + 3 + j)) 1 false (some .int) iX1_countFrom (93, [some (.ref 28), some (.ref 29), some (.int (nI c)), some (.int (nI m)), some (.int (nI k)), some (.int (nI u)), some (.int (nI acc)), some (.int (nI v)), some (.int (nI fr)), o9], [.int (nI x)], fbH sc F S G Y M T (C1, E, upd H v (nI (hv r v c + 2 ^ c))) V A Z) (fun r2 h2 => r2 = some (.int (nI (acc + (cond true (if v = u then (k - u) * ct b k j (c + 1) (uN r c v) (u + 1) else ct b k j (c + 1) (uN r c v) u) 0 + rgS (okB b r c) (fun v => if v = u then (k - u) * ct b k j (c + 1) (uN r c v) (u + 1) else ct b k j (c + 1) (uN r c v) u) f (v + 1))))) ∧ h2 = fbH sc F S G Y M T (C1, E, H) V A Z) := by
              intro x kx
              refine mj_b1 10 rfl (⟨i4, i4⟩) ?_
              refine mj_hq (h' := fbH sc F S G Y M T (C1, E, H) V A Z) (Eq.trans (b := fbH sc F S G Y M T (C1, E, upd (upd H v (nI (hv r v c + 2 ^ c))) (nI v).toNatClampNeg ((upd H v (nI (hv r v c + 2 ^ c))) (nI v).toNatClampNeg - f_ishl (mj_kc 1) (nI c))) V A Z) rfl (by rw [e5, pk_us, sl, upd_back (by rw [← nI_add, Int32.add_sub_cancel, hHv])])) ?_
              exact kx
            rcases hfr with ⟨rfl, rfl⟩ | ⟨rfl, hne⟩
            · refine mj_b0 40 rfl ?_
              refine mj_brf (show ¬ nI 1 = 0 by decide) ?_
              refine mj_b0 4 rfl ?_
              refine mj_sq (S' := (90, [some (.ref 28), some (.ref 29), some (.int (nI c)), some (.int (nI m)), some (.int (nI k)), some (.int (nI v)), some (.int (nI acc)), some (.int (nI v)), some (.int (nI 1)), o9], [.int (nI (v + 1)), .int (nI k), .int (nI m), .int (nI (c + 1)), .ref 29, .ref 28], fbH sc F S G Y M T (C1, E, upd H v (nI (hv r v c + 2 ^ c))) V A Z)) (by rw [← nI_add c 1, ← nI_add v 1] <;> rfl) ?_
              refine mj_cS rfl rfl rfl rfl (IH (c + 1) (uN r c v) (v + 1) _ (by omega) (hr.put hv4) (by omega)) ?_
              refine back _ ?_
              refine mj_b0 40 rfl ?_
              refine mj_brf (show ¬ nI 1 = 0 by decide) ?_
              have ih := ih (v + 1) (acc + (k - v) * ct b k j (c + 1) (uN r c v) (v + 1)) (some (.int (nI 1))) (some (.int (nI (ct b k j (c + 1) (uN r c v) (v + 1))))) (by omega)
              rw [← nI_add v 1, ← nI_add acc ((k - v) * ct b k j (c + 1) (uN r c v) (v + 1)), ← pk_mul (k - v), ← pk_sub (show v ≤ k by omega)] at ih
              refine mj_b0 10 rfl ?_
              rw [if_pos rfl]
              show mj_R _ _ _ _ _ _ (fun r2 h2 => r2 = some (.int (nI (acc + ((k - v) * ct b k j (c + 1) (uN r c v) (v + 1) + _)))) ∧ _)
              rw [← Nat.add_assoc]
              exact ih
            · refine mj_b0 40 rfl ?_
              refine mj_brt (show nI 0 = 0 by decide) ?_
              refine mj_b0 1 rfl ?_
              refine mj_sq (S' := (90, [some (.ref 28), some (.ref 29), some (.int (nI c)), some (.int (nI m)), some (.int (nI k)), some (.int (nI u)), some (.int (nI acc)), some (.int (nI v)), some (.int (nI 0)), o9], [.int (nI u), .int (nI k), .int (nI m), .int (nI (c + 1)), .ref 29, .ref 28], fbH sc F S G Y M T (C1, E, upd H v (nI (hv r v c + 2 ^ c))) V A Z)) (by rw [← nI_add c 1] <;> rfl) ?_
              refine mj_cS rfl rfl rfl rfl (IH (c + 1) (uN r c v) u _ (by omega) (hr.put hv4) (by omega)) ?_
              refine back _ ?_
              refine mj_b0 40 rfl ?_
              refine mj_brt (show nI 0 = 0 by decide) ?_
              have ih := ih (v + 1) (acc + ct b k j (c + 1) (uN r c v) u) (some (.int (nI 0))) (some (.int (nI (ct b k j (c + 1) (uN r c v) u)))) (by omega)
              rw [← nI_add v 1, ← nI_add acc (ct b k j (c + 1) (uN r c v) u)] at ih
              refine mj_b0 5 rfl ?_
              rw [if_neg hne]
              show mj_R _ _ _ _ _ _ (fun r2 h2 => r2 = some (.int (nI (acc + (ct b k j (c + 1) (uN r c v) u + _)))) ∧ _)
              rw [← Nat.add_assoc]
              exact ih
          refine mj_b0 40 rfl ?_
          by_cases hvu : v = u
          · refine mj_brf (by rw [hvu]; exact fun z => z rfl) ?_
            refine mj_b0 2 rfl ?_
            exact post 1 (Or.inl ⟨rfl, hvu⟩)
          · refine mj_brt (fun z => hvu ((nI_eq (by omega) (by omega)).mp z)) ?_
            refine mj_b0 1 rfl ?_
            exact post 0 (Or.inr ⟨rfl, hvu⟩)
        · have q2 : ev b c (bp b) &&& hv r v c ≠ 0 := fun z => q (hok.mp z)
          have q3 : okB b r c v = false := by
            cases hh : okB b r c v with
            | false => rfl
            | true => exact absurd hh q
          have ih := ih (v + 1) acc o8 o9 (by omega)
          rw [← nI_add v 1] at ih
          refine mj_brt (nI_ne0 (by omega) (by omega)) ?_
          refine mj_b0 2 rfl ?_
          rw [q3]
          show mj_R _ _ _ _ _ _ (fun r2 h2 => r2 = some (.int (nI (acc + (0 + _)))) ∧ _)
          rw [Nat.zero_add]
          exact ih
    refine mj_C.of rfl rfl rfl ?_
    refine mj_b0 40 rfl ?_
    refine mj_brf (nI_ge hcm (by omega)) ?_
    refine mj_b0 40 rfl ?_
    refine mj_brt (show nI c < nI 16 from nI_lt (by omega) (by omega)) ?_
    refine mj_b0 4 rfl ?_
    have mm := main (min (u + 1) k) 0 0 none none (by omega)
    rw [Nat.zero_add] at mm
    exact mm
theorem x_fillFrom {b k m : Nat} {E : fA} (hE : eaR b m E) (hk1 : 1 ≤ k) (hk : k ≤ 4) (hm : m ≤ 16) : ∀ (j c : Nat) (r : Nat → Nat) (H : fA), c + j = m → haR r c H → ∃ H', (fs b k j c r = none → H' = H) ∧ (∀ x, fs b k j c r = some x → haR x m H') ∧ mj_C (d + 3 + j) nX1_fillFrom [.ref 28, .ref 29, .int (nI c), .int (nI m), .int (nI k)] (fbH sc F S G Y M T (C1, E, H) V A Z) (some (.int (bI (fs b k j c r).isSome))) (fbH sc F S G Y M T (C1, E, H') V A Z) := by
  intro j
  induction j with
  | zero =>
    intro c r H hc hr
    refine ⟨H, fun _ => rfl, fun x hx => ?_, ?_⟩
    · have hx' : some r = some x := hx
      cases hx'
      rw [show m = c by omega]
      exact hr
    · refine mj_C.of rfl rfl rfl ?_
      refine mj_b0 40 rfl ?_
      refine mj_brt (nI_le (by omega) (by omega)) ?_
      refine mj_b0 40 rfl ?_
      exact mj_end rfl rfl (Or.inr rfl) ⟨rfl, rfl⟩
  | succ j IH =>
    intro c r H hc hr
    have hcm : c < m := by omega
    have e1 : (nI c).toNatClampNeg = c := nI_clamp (by omega)
    have hec : E c = nI (ev b c (bp b)) := hE c hcm
    have el := ev_lt (b := b) (c := c) (bp b)
    have pc := p16 (show c ≤ 16 by omega)
    have main : ∀ (f v : Nat), f + v = k → mj_R (mj_C (d + 3 + j)) 1 false (some .boolean) iX1_fillFrom (16, [some (.ref 28), some (.ref 29), some (.int (nI c)), some (.int (nI m)), some (.int (nI k)), some (.int (nI v))], [], fbH sc F S G Y M T (C1, E, H) V A Z) (fun r2 h2 => r2 = some (.int (bI (rgF (okB b r c) (fun v => fs b k j (c + 1) (uN r c v)) f v).isSome)) ∧ ∃ H', (rgF (okB b r c) (fun v => fs b k j (c + 1) (uN r c v)) f v = none → H' = H) ∧ (∀ x, rgF (okB b r c) (fun v => fs b k j (c + 1) (uN r c v)) f v = some x → haR x m H') ∧ h2 = fbH sc F S G Y M T (C1, E, H') V A Z) := by
      intro f
      induction f with
      | zero =>
        intro v hf
        refine mj_b0 40 rfl ?_
        refine mj_brt (nI_le (by omega) (by omega)) ?_
        refine mj_b0 40 rfl ?_
        exact mj_end rfl rfl (Or.inl rfl) ⟨rfl, H, fun _ => rfl, fun x hx => (by cases hx), rfl⟩
      | succ f ih =>
        intro v hf
        have hvk : v < k := by omega
        have hv4 : v < 4 := by omega
        have e5 : (nI v).toNatClampNeg = v := nI_clamp (by omega)
        have i4 : vp_in (nI v) 4 := nI_ix hv4 (by omega)
        have hl := hv_lt (r := r) (v := v) c
        have hHv : H v = nI (hv r v c) := hr v hv4
        have hle : ev b c (bp b) &&& hv r v c ≤ ev b c (bp b) := Nat.and_le_left
        have hok := ev_ok (b := b) (v := v) (r := r) (show c < 16 by omega) (bp b)
        refine mj_b0 40 rfl ?_
        refine mj_brf (nI_ge hvk (by omega)) ?_
        refine mj_b1 40 rfl (⟨nI_ix (show c < 16 by omega) (by omega), i4⟩) ?_
        rw [e1, e5, show (C1, E, H).2.1 c = nI (ev b c (bp b)) from hec, show (C1, E, H).2.2 v = nI (hv r v c) from hHv, nI_and (by omega) (by omega)]
        simp only [rgF]
        by_cases q : okB b r c v = true
        · have q2 : ev b c (bp b) &&& hv r v c = 0 := hok.mpr q
          have sl : f_ishl (mj_kc 1) (nI c) = nI (2 ^ c) := sl_bit c (by omega)
          obtain ⟨H', k1, k3, k2⟩ := IH (c + 1) (uN r c v) (upd H v (nI (hv r v c + 2 ^ c))) (by omega) (hr.put hv4)
          refine mj_brf (by rw [q2]; exact (show ¬ ¬ nI 0 = 0 by decide)) ?_
          refine mj_b1 9 rfl (⟨i4, i4⟩) ?_
          refine mj_hq (h' := fbH sc F S G Y M T (C1, E, upd H v (nI (hv r v c + 2 ^ c))) V A Z) (Eq.trans (b := fbH sc F S G Y M T (C1, E, upd H (nI v).toNatClampNeg (H (nI v).toNatClampNeg + f_ishl (mj_kc 1) (nI c))) V A Z) rfl (by rw [e5, hHv, sl, nI_add])) ?_
          refine mj_b0 40 rfl ?_
          refine mj_sq (S' := (52, [some (.ref 28), some (.ref 29), some (.int (nI c)), some (.int (nI m)), some (.int (nI k)), some (.int (nI v))], [.int (nI k), .int (nI m), .int (nI (c + 1)), .ref 29, .ref 28], fbH sc F S G Y M T (C1, E, upd H v (nI (hv r v c + 2 ^ c))) V A Z)) (by rw [← nI_add c 1] <;> rfl) ?_
          refine mj_cS rfl rfl rfl rfl (k2) ?_
          rw [q]
          refine mj_b0 40 rfl ?_
          cases hf2 : fs b k j (c + 1) (uN r c v) with
          | none =>
            have ih := ih (v + 1) (by omega)
            rw [← nI_add v 1] at ih
            have hH' := k1 hf2
            subst hH'
            refine mj_brt (show bI false = 0 by decide) ?_
            refine mj_b1 9 rfl (⟨i4, i4⟩) ?_
            refine mj_hq (h' := fbH sc F S G Y M T (C1, E, H) V A Z) (Eq.trans (b := fbH sc F S G Y M T (C1, E, upd (upd H v (nI (hv r v c + 2 ^ c))) (nI v).toNatClampNeg ((upd H v (nI (hv r v c + 2 ^ c))) (nI v).toNatClampNeg - f_ishl (mj_kc 1) (nI c))) V A Z) rfl (by rw [e5, pk_us, sl, upd_back (by rw [← nI_add, Int32.add_sub_cancel, hHv])])) ?_
            refine mj_b0 2 rfl ?_
            exact ih
          | some x =>
            refine mj_brf (show ¬ bI true = 0 by decide) ?_
            refine mj_b0 40 rfl ?_
            exact mj_end rfl rfl (Or.inr rfl) ⟨rfl, H', (fun hy => by cases hy), (fun y hy => by cases hy; exact k3 x hf2), rfl⟩
        · have q2 : ev b c (bp b) &&& hv r v c ≠ 0 := fun z => q (hok.mp z)
          have q3 : okB b r c v = false := by
            cases hh : okB b r c v with
            | false => rfl
            | true => exact absurd hh q
          have ih := ih (v + 1) (by omega)
          rw [← nI_add v 1] at ih
          refine mj_brt (nI_ne0 (by omega) (by omega)) ?_
          refine mj_b0 2 rfl ?_
          rw [q3]
          exact ih
    have kk : ∃ r2 h2, mj_C (d + 3 + j + 1) nX1_fillFrom [.ref 28, .ref 29, .int (nI c), .int (nI m), .int (nI k)] (fbH sc F S G Y M T (C1, E, H) V A Z) r2 h2 ∧ (r2 = some (.int (bI (fs b k (j + 1) c r).isSome)) ∧ ∃ H', (fs b k (j + 1) c r = none → H' = H) ∧ (∀ x, fs b k (j + 1) c r = some x → haR x m H') ∧ h2 = fbH sc F S G Y M T (C1, E, H') V A Z) := by
      refine mj_C.ex rfl rfl rfl ?_
      refine mj_b0 40 rfl ?_
      refine mj_brf (nI_ge hcm (by omega)) ?_
      refine mj_b0 40 rfl ?_
      refine mj_brt (show nI c < nI 16 from nI_lt (by omega) (by omega)) ?_
      refine mj_b0 2 rfl ?_
      exact main k 0 (by omega)
    obtain ⟨r2, h2, k1, rfl, H', k2, k3, rfl⟩ := kk
    exact ⟨H', k2, k3, k1⟩
/-- the first row's colour of a CELL -/
theorem l_colour {m i : Nat} {E H : fA} {x : Nat → Nat} {x1 x2 : Int32} (hm : m ≤ 16) (hi : i < m) (hH : haR x m H) (hx : x i < 4) : ∀ (j w : Nat), j + w = x i → mj_R (mj_C d) 1 false (some .int) iX1_colourInFirstRow (28, [some (.ref 26), some (.int x1), some (.int x2), some (.int (nI i)), some (.int (nI w))], [], fbH sc F S G Y M T (C1, E, H) V A Z) (fun r2 h2 => r2 = some (.int (nI (x i))) ∧ h2 = fbH sc F S G Y M T (C1, E, H) V A Z)
  | 0, w, hj => by
    rw [Nat.zero_add] at hj
    have e5 : (nI w).toNatClampNeg = w := nI_clamp (by omega)
    refine mj_b0 40 rfl ?_
    by_cases q : w = 3
    · refine mj_brt (by rw [q]; exact (show nI 3 ≤ nI 3 by decide)) ?_
      refine mj_b0 40 rfl ?_
      exact mj_end rfl rfl trivial ⟨by rw [hj], rfl⟩
    · have hw : H w = nI (hv x w m) := hH w (by omega)
      have hl := hv_lt (r := x) (v := w) m
      have pm := p16 hm
      have hb := hv_bit (r := x) (v := w) m hi
      rw [decide_eq_true hj.symm, Nat.testBit_eq_decide_div_mod_eq, decide_eq_true_iff] at hb
      refine mj_brf (show ¬ nI 3 ≤ nI w from nI_ge (by omega) (by omega)) ?_
      refine mj_b1 40 rfl (nI_ix (show w < 4 by omega) (by omega)) ?_
      rw [e5, show (C1, E, H).2.2 w = nI (hv x w m) from hw, show f_ishr (nI (hv x w m)) (nI i) &&& mj_kc 1 = nI (hv x w m / 2 ^ i % 2) from sh_bit (by omega) (by omega), hb]
      refine mj_brt (show ¬ nI 1 = 0 by decide) ?_
      refine mj_b0 40 rfl ?_
      exact mj_end rfl rfl trivial ⟨by rw [hj], rfl⟩
  | j + 1, w, hj => by
    have e5 : (nI w).toNatClampNeg = w := nI_clamp (by omega)
    have hw : H w = nI (hv x w m) := hH w (by omega)
    have hl := hv_lt (r := x) (v := w) m
    have pm := p16 hm
    have hb := hv_bit (r := x) (v := w) m hi
    rw [decide_eq_false (show ¬ x i = w by omega), Nat.testBit_eq_decide_div_mod_eq, decide_eq_false_iff_not] at hb
    have ih := l_colour (E := E) (x1 := x1) (x2 := x2) hm hi hH hx j (w + 1) (by omega)
    rw [← nI_add w 1] at ih
    refine mj_b0 40 rfl ?_
    refine mj_brf (show ¬ nI 3 ≤ nI w from nI_ge (by omega) (by omega)) ?_
    refine mj_b1 40 rfl (nI_ix (show w < 4 by omega) (by omega)) ?_
    rw [e5, show (C1, E, H).2.2 w = nI (hv x w m) from hw, show f_ishr (nI (hv x w m)) (nI i) &&& mj_kc 1 = nI (hv x w m / 2 ^ i % 2) from sh_bit (by omega) (by omega), show hv x w m / 2 ^ i % 2 = 0 by omega]
    refine mj_brf (show ¬ ¬ nI 0 = 0 by decide) ?_
    refine mj_b0 2 rfl ?_
    exact ih
end CK
