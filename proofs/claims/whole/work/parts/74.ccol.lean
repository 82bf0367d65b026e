/-! promises 23 and 24: the class's rows -/
theorem or_bit : ∀ a, a < 16 → ∀ x, x < 4 → nI a ||| f_ishl (nI 1) (nI x) = nI (a ||| 2 ^ x) ∧ a ||| 2 ^ x < 16 := by decide +kernel
theorem sh_bit : ∀ a, a < 16 → ∀ v, v < 4 → f_ishr (nI a) (nI v) &&& nI 1 = nI (a / 2 ^ v % 2) := by decide +kernel
theorem or_is : ∀ a, a < 16 → ∀ x, x < 4 → ∀ v, v < 4 → ((a ||| 2 ^ x) / 2 ^ v % 2 = 0 ↔ (a / 2 ^ v % 2 = 0 ∧ x ≠ v)) := by decide +kernel
def tk (b : Nat) (r : Nat → Nat) (c : Nat) : Nat → Nat
  | 0 => 0
  | s + 1 => if tAt b c s < c then tk b r c s ||| 2 ^ r (tAt b c s) else tk b r c s
theorem tk_ok {b c : Nat} {r : Nat → Nat} (hc : c ≤ 16) (hr : ∀ i, i < c → r i < 4) : ∀ s, tk b r c s < 16 ∧ ∀ v, v < 4 → (tk b r c s / 2 ^ v % 2 = 0 ↔ okS b r c v s = true)
  | 0 => ⟨by show 0 < 16; omega, fun v hv => by
      show 0 / 2 ^ v % 2 = 0 ↔ true = true
      rw [Nat.zero_div]
      exact ⟨fun _ => rfl, fun _ => rfl⟩⟩
  | s + 1 => by
    obtain ⟨g1, g2⟩ := tk_ok hc hr s
    simp only [tk, okS]
    by_cases q : tAt b c s < c
    · rw [if_pos q]
      have hx := hr _ q
      refine ⟨(or_bit _ g1 _ hx).2, fun v hv => ?_⟩
      rw [or_is _ g1 _ hx v hv, g2 v hv, Bool.and_eq_true, decide_eq_true_iff]
      refine ⟨fun z => ⟨z.1, Or.inr (Or.inr z.2)⟩, fun z => ⟨z.1, ?_⟩⟩
      rcases z.2 with y | y | y
      · omega
      · omega
      · exact y
    · rw [if_neg q]
      refine ⟨g1, fun v hv => ?_⟩
      rw [g2 v hv, Bool.and_eq_true, decide_eq_true_iff]
      exact ⟨fun z => ⟨z, Or.inr (Or.inl (by omega))⟩, fun z => z.1⟩
section CK
variable {sc : mj_E} {F : Int32 × Int32} {S : fA × fA × fA} {G : fG} {Y : fY} {M : fM} {T : fT} {C1 : fA} {V : fV} {A : fA × Int32} {Z : mj_H} {d : Nat}
def rwR (c : Nat) (r : Nat → Nat) (R : fA) : Prop := ∀ i, i < c → R i = nI (r i) ∧ r i < 4
theorem c_takenBeside {b c : Nat} {r : Nat → Nat} {R : fA} (hb : b < 22) (h : Bd b G) (hc : c < bn b) (h16 : c < 16) (hr : rwR c r R) : mj_C (d + 2) nX1_takenBeside [.ref 6, .ref 27, .int (nI c)] (fbH sc F S G Y M T (C1, R) V A Z) (some (.int (nI (tk b r c (bp b))))) (fbH sc F S G Y M T (C1, R) V A Z) := by
  have t0 := tb0 hb
  have t1 := tb1 hb hc
  have tko := fun s => tk_ok (b := b) (r := r) (show c ≤ 16 by omega) (fun i hi => (hr i hi).2) s
  refine mj_C.of rfl rfl rfl ?_
  refine mj_b0 4 rfl ?_
  refine mj_itJ (fun s (o : Option Value) => (5, [some (.ref 6), some (.ref 27), some (.int (nI c)), some (.int (nI (tk b r c s))), some (.int (nI s)), o], [], fbH sc F S G Y M T (C1, R) V A Z)) (bp b) (fun s o hs ih => ?_) (fun o => ?_) none
  · have ih := ih (some (.int (nv (tAt b c s))))
    rw [← nI_add s 1] at ih
    simp only [tk] at ih
    have hx : tAt b c s = 1023 ∨ tAt b c s < bn b := (t1.2.2.2.2.2 s hs).imp_right (fun z => z.1)
    refine mj_b0 40 rfl ?_
    refine mj_brf (by rw [bd_sd h]; exact nI_ge hs (by omega)) ?_
    refine mj_b0 40 rfl ?_
    refine mj_cV rfl rfl rfl rfl rfl rfl (c_beyond (show c < 400 by omega) (show s < 10 by omega)) ?_
    rw [bd_at h hc hs]
    refine mj_b0 40 rfl ?_
    by_cases q : tAt b c s = 1023
    · rw [if_neg (by omega)] at ih
      refine mj_brt (by rw [q]; exact (show NO < 0 by decide)) ?_
      refine mj_b0 2 rfl ?_
      exact ih
    · have hx2 := hx.resolve_left q
      rw [nv_is q] at ih ⊢
      refine mj_brf (nI_pos (by omega)) ?_
      refine mj_b0 40 rfl ?_
      by_cases q2 : tAt b c s < c
      · rw [if_pos q2] at ih
        have e2 : (nI (tAt b c s)).toNatClampNeg = tAt b c s := nI_clamp (by omega)
        have e3 := (or_bit _ (tko s).1 _ (hr _ q2).2).1
        refine mj_brf (nI_ge q2 (by omega)) ?_
        refine mj_b1 8 rfl (nI_ix (show tAt b c s < 16 by omega) (by omega)) ?_
        rw [e2, show (C1, R).2 (tAt b c s) = nI (r (tAt b c s)) from (hr _ q2).1]
        rw [← e3] at ih
        refine mj_b0 2 rfl ?_
        exact ih
      · rw [if_neg q2] at ih
        refine mj_brt (nI_le (by omega) (by omega)) ?_
        refine mj_b0 2 rfl ?_
        exact ih
  · refine mj_b0 40 rfl ?_
    refine mj_brt (by rw [bd_sd h]; exact nI_le (by omega) (by omega)) ?_
    refine mj_b0 40 rfl ?_
    exact mj_end rfl rfl trivial ⟨rfl, rfl⟩
theorem c_choices {hh : mj_H} {k u : Nat} (hk : k ≤ 4) (hu : u ≤ k) : mj_C (d + 1) nX1_choices [.int (nI k), .int (nI u)] hh (some (.int (nI (ffa k u)))) hh := by
  refine mj_C.of rfl rfl rfl ?_
  refine mj_b0 4 rfl ?_
  refine mj_iter (fun i => (4, [some (.int (nI k)), some (.int (nI u)), some (.int (nI (ffa k i))), some (.int (nI i))], [], hh)) u (fun i hi ih => ?_) ?_
  · rw [← nI_add i 1] at ih
    simp only [ffa] at ih
    rw [← pk_mul, ← pk_sub (show i ≤ k by omega)] at ih
    refine mj_b0 40 rfl ?_
    refine mj_brf (nI_ge hi (by omega)) ?_
    refine mj_b0 8 rfl ?_
    exact ih
  · refine mj_b0 40 rfl ?_
    refine mj_brt (nI_le (by omega) (by omega)) ?_
    refine mj_b0 40 rfl ?_
    exact mj_end rfl rfl trivial ⟨rfl, rfl⟩
theorem rwR.put {c v : Nat} {r : Nat → Nat} {R : fA} (h : rwR c r R) (hv : v < 4) : rwR (c + 1) (uN r c v) (upd R c (nI v)) := by
  intro i hi
  by_cases e : i = c
  · rw [e, pk_us, uN_s]
    exact ⟨rfl, hv⟩
  · rw [pk_un e, uN_n e]
    exact h i (by omega)
theorem x_countFrom {b k m : Nat} (hb : b < 22) (h : Bd b G) (hk1 : 1 ≤ k) (hk : k ≤ 4) (hm : m ≤ 16) (hmb : m ≤ bn b) : ∀ (j c : Nat) (r : Nat → Nat) (u : Nat) (R : fA), c + j = m → rwR c r R → u ≤ k → ∃ R', (∀ i, i < c → R' i = R i) ∧ mj_C (d + 3 + j) nX1_countFrom [.ref 6, .ref 27, .int (nI c), .int (nI m), .int (nI k), .int (nI u)] (fbH sc F S G Y M T (C1, R) V A Z) (some (.int (nI (cc b k j c r u)))) (fbH sc F S G Y M T (C1, R') V A Z) := by
  have t0 := tb0 hb
  intro j
  induction j with
  | zero =>
    intro c r u R hc hr hu
    refine ⟨R, fun _ _ => rfl, ?_⟩
    refine mj_C.of rfl rfl rfl ?_
    refine mj_b0 40 rfl ?_
    refine mj_brt (nI_le (by omega) (by omega)) ?_
    refine mj_b0 40 rfl ?_
    refine mj_cS rfl rfl rfl rfl (c_choices hk hu) ?_
    exact mj_end rfl rfl trivial ⟨rfl, rfl⟩
  | succ j IH =>
    intro c r u R hc hr hu
    have hcm : c < m := by omega
    have e1 : (nI c).toNatClampNeg = c := nI_clamp (by omega)
    obtain ⟨g1, g2⟩ := tk_ok (b := b) (r := r) (show c ≤ 16 by omega) (fun i hi => (hr i hi).2) (bp b)
    have main : ∀ (f v acc : Nat) (R1 : fA), f + v = min (u + 1) k → (∀ i, i < c → R1 i = R i) → mj_R (mj_C (d + 3 + j)) 1 false (some .int) iX1_countFrom (33, [some (.ref 6), some (.ref 27), some (.int (nI c)), some (.int (nI m)), some (.int (nI k)), some (.int (nI u)), some (.int (nI (tk b r c (bp b)))), some (.int (nI acc)), some (.int (nI v))], [], fbH sc F S G Y M T (C1, R1) V A Z) (fun r2 h2 => r2 = some (.int (nI (acc + rgS (okB b r c) (fun v => cc b k j (c + 1) (uN r c v) (max u (v + 1))) f v))) ∧ ∃ R', (∀ i, i < c → R' i = R i) ∧ h2 = fbH sc F S G Y M T (C1, R') V A Z) := by
      intro f
      induction f with
      | zero =>
        intro v acc R1 hf hR
        refine mj_b0 40 rfl ?_
        by_cases q : u < v
        · refine mj_brt (nI_lt q (by omega)) ?_
          refine mj_b0 40 rfl ?_
          exact mj_end rfl rfl trivial ⟨rfl, R1, hR, rfl⟩
        · refine mj_brf (nI_nlt (by omega) (by omega)) ?_
          refine mj_b0 40 rfl ?_
          refine mj_brt (nI_le (by omega) (by omega)) ?_
          refine mj_b0 40 rfl ?_
          exact mj_end rfl rfl trivial ⟨rfl, R1, hR, rfl⟩
      | succ f ih =>
        intro v acc R1 hf hR
        have hvk : v < k := by omega
        have hv4 : v < 4 := by omega
        refine mj_b0 40 rfl ?_
        refine mj_brf (nI_nlt (by omega) (by omega)) ?_
        refine mj_b0 40 rfl ?_
        refine mj_brf (nI_ge hvk (by omega)) ?_
        refine mj_b0 40 rfl ?_
        rw [show f_ishr (nI (tk b r c (bp b))) (nI v) &&& mj_kc 1 = nI (tk b r c (bp b) / 2 ^ v % 2) from sh_bit _ g1 _ hv4]
        simp only [rgS]
        by_cases q : okB b r c v = true
        · have q2 : tk b r c (bp b) / 2 ^ v % 2 = 0 := (g2 v hv4).mpr q
          have hr2 : rwR (c + 1) (uN r c v) (upd R1 c (nI v)) := rwR.put (fun i hi => by rw [hR i hi]; exact hr i hi) hv4
          obtain ⟨R', k1, k2⟩ := IH (c + 1) (uN r c v) (max u (v + 1)) (upd R1 c (nI v)) (by omega) hr2 (by omega)
          refine mj_brf (by rw [q2]; exact (show ¬ ¬ nI 0 = 0 by decide)) ?_
          refine mj_b1 40 rfl (nI_ix (show c < 16 by omega) (by omega)) ?_
          refine mj_sq (S' := (81, [some (.ref 6), some (.ref 27), some (.int (nI c)), some (.int (nI m)), some (.int (nI k)), some (.int (nI u)), some (.int (nI (tk b r c (bp b)))), some (.int (nI acc)), some (.int (nI v))], [.int (nI (max u (v + 1))), .int (nI k), .int (nI m), .int (nI (c + 1)), .ref 27, .ref 6, .int (nI acc)], fbH sc F S G Y M T (C1, upd R1 c (nI v)) V A Z)) (by
            have em : (if nI u < nI v + mj_kc 1 then nI v + mj_kc 1 else nI u) = nI (max u (v + 1)) := by
              rw [show nI v + mj_kc 1 = nI (v + 1) from nI_add v 1]
              by_cases z : u < v + 1
              · rw [if_pos (nI_lt z (by omega)), show max u (v + 1) = v + 1 by omega]
              · rw [if_neg (nI_nlt (by omega) (by omega)), show max u (v + 1) = u by omega]
            rw [← em, ← nI_add c 1, e1] <;> rfl) ?_
          refine mj_cS rfl rfl rfl rfl (k2) ?_
          have ih := ih (v + 1) (acc + cc b k j (c + 1) (uN r c v) (max u (v + 1))) R' (by omega) (fun i hi => by rw [k1 i (by omega), pk_un (by omega)]; exact hR i hi)
          rw [← nI_add v 1, ← nI_add acc (cc b k j (c + 1) (uN r c v) (max u (v + 1)))] at ih
          refine mj_b0 4 rfl ?_
          rw [q]
          show mj_R _ _ _ _ _ _ (fun r2 h2 => r2 = some (.int (nI (acc + (cc b k j (c + 1) (uN r c v) (max u (v + 1)) + _)))) ∧ _)
          rw [← Nat.add_assoc]
          exact ih
        · have q2 : tk b r c (bp b) / 2 ^ v % 2 = 1 := (Nat.mod_two_eq_zero_or_one _).resolve_left (fun z => q ((g2 v hv4).mp z))
          have q3 : okB b r c v = false := by
            cases hh : okB b r c v with
            | false => rfl
            | true => exact absurd hh q
          have ih := ih (v + 1) acc R1 (by omega) hR
          rw [← nI_add v 1] at ih
          refine mj_brt (by rw [q2]; exact (show ¬ nI 1 = 0 by decide)) ?_
          refine mj_b0 2 rfl ?_
          rw [q3]
          show mj_R _ _ _ _ _ _ (fun r2 h2 => r2 = some (.int (nI (acc + (0 + _)))) ∧ _)
          rw [Nat.zero_add]
          exact ih
    have kk : ∃ r2 h2, mj_C (d + 3 + j + 1) nX1_countFrom [.ref 6, .ref 27, .int (nI c), .int (nI m), .int (nI k), .int (nI u)] (fbH sc F S G Y M T (C1, R) V A Z) r2 h2 ∧ (r2 = some (.int (nI (cc b k (j + 1) c r u))) ∧ ∃ R', (∀ i, i < c → R' i = R i) ∧ h2 = fbH sc F S G Y M T (C1, R') V A Z) := by
      refine mj_C.ex rfl rfl rfl ?_
      refine mj_b0 40 rfl ?_
      refine mj_brf (nI_ge hcm (by omega)) ?_
      refine mj_b0 40 rfl ?_
      refine mj_brt (show nI c < nI 16 from nI_lt (by omega) (by omega)) ?_
      refine mj_b0 40 rfl ?_
      have ht := c_takenBeside (sc := sc) (F := F) (S := S) (Y := Y) (M := M) (T := T) (C1 := C1) (V := V) (A := A) (Z := Z) (d := d + 1 + j) hb h (show c < bn b by omega) (show c < 16 by omega) hr
      rw [show d + 1 + j + 2 = d + 3 + j by omega] at ht
      refine mj_cS rfl rfl rfl rfl (ht) ?_
      refine mj_b0 5 rfl ?_
      have mm := main (min (u + 1) k) 0 0 R (by omega) (fun _ _ => rfl)
      rw [Nat.zero_add] at mm
      exact mm
    obtain ⟨r2, h2, k1, rfl, R', k2, rfl⟩ := kk
    exact ⟨R', k2, k1⟩
theorem x_fillFrom {b k m : Nat} (hb : b < 22) (h : Bd b G) (hk1 : 1 ≤ k) (hk : k ≤ 4) (hm : m ≤ 16) (hmb : m ≤ bn b) : ∀ (j c : Nat) (r : Nat → Nat) (R : fA), c + j = m → rwR c r R → ∃ R', (∀ i, i < c → R' i = R i) ∧ (∀ x, fs b k j c r = some x → ∀ i, i < m → R' i = nI (x i)) ∧ mj_C (d + 3 + j) nX1_fillFrom [.ref 6, .ref 27, .int (nI c), .int (nI m), .int (nI k)] (fbH sc F S G Y M T (C1, R) V A Z) (some (.int (bI (fs b k j c r).isSome))) (fbH sc F S G Y M T (C1, R') V A Z) := by
  have t0 := tb0 hb
  intro j
  induction j with
  | zero =>
    intro c r R hc hr
    refine ⟨R, fun _ _ => rfl, fun x hx i hi => ?_, ?_⟩
    · have hx' : some r = some x := hx
      cases hx'
      exact (hr i (by omega)).1
    · refine mj_C.of rfl rfl rfl ?_
      refine mj_b0 40 rfl ?_
      refine mj_brt (nI_le (by omega) (by omega)) ?_
      refine mj_b0 40 rfl ?_
      exact mj_end rfl rfl (Or.inr rfl) ⟨rfl, rfl⟩
  | succ j IH =>
    intro c r R hc hr
    have hcm : c < m := by omega
    have e1 : (nI c).toNatClampNeg = c := nI_clamp (by omega)
    obtain ⟨g1, g2⟩ := tk_ok (b := b) (r := r) (show c ≤ 16 by omega) (fun i hi => (hr i hi).2) (bp b)
    have main : ∀ (f v : Nat) (R1 : fA), f + v = k → (∀ i, i < c → R1 i = R i) → mj_R (mj_C (d + 3 + j)) 1 false (some .boolean) iX1_fillFrom (24, [some (.ref 6), some (.ref 27), some (.int (nI c)), some (.int (nI m)), some (.int (nI k)), some (.int (nI (tk b r c (bp b)))), some (.int (nI v))], [], fbH sc F S G Y M T (C1, R1) V A Z) (fun r2 h2 => r2 = some (.int (bI (rgF (okB b r c) (fun v => fs b k j (c + 1) (uN r c v)) f v).isSome)) ∧ ∃ R', (∀ i, i < c → R' i = R i) ∧ (∀ x, rgF (okB b r c) (fun v => fs b k j (c + 1) (uN r c v)) f v = some x → ∀ i, i < m → R' i = nI (x i)) ∧ h2 = fbH sc F S G Y M T (C1, R') V A Z) := by
      intro f
      induction f with
      | zero =>
        intro v R1 hf hR
        refine mj_b0 40 rfl ?_
        refine mj_brt (nI_le (by omega) (by omega)) ?_
        refine mj_b0 40 rfl ?_
        exact mj_end rfl rfl (Or.inl rfl) ⟨rfl, R1, hR, fun x hx => (by cases hx), rfl⟩
      | succ f ih =>
        intro v R1 hf hR
        have hvk : v < k := by omega
        have hv4 : v < 4 := by omega
        refine mj_b0 40 rfl ?_
        refine mj_brf (nI_ge hvk (by omega)) ?_
        refine mj_b0 40 rfl ?_
        rw [show f_ishr (nI (tk b r c (bp b))) (nI v) &&& mj_kc 1 = nI (tk b r c (bp b) / 2 ^ v % 2) from sh_bit _ g1 _ hv4]
        simp only [rgF]
        by_cases q : okB b r c v = true
        · have q2 : tk b r c (bp b) / 2 ^ v % 2 = 0 := (g2 v hv4).mpr q
          have hr2 : rwR (c + 1) (uN r c v) (upd R1 c (nI v)) := rwR.put (fun i hi => by rw [hR i hi]; exact hr i hi) hv4
          obtain ⟨R', k1, k3, k2⟩ := IH (c + 1) (uN r c v) (upd R1 c (nI v)) (by omega) hr2
          have hR' : ∀ i, i < c → R' i = R i := fun i hi => by rw [k1 i (by omega), pk_un (by omega)]; exact hR i hi
          refine mj_brf (by rw [q2]; exact (show ¬ ¬ nI 0 = 0 by decide)) ?_
          refine mj_b1 40 rfl (nI_ix (show c < 16 by omega) (by omega)) ?_
          refine mj_sq (S' := (54, [some (.ref 6), some (.ref 27), some (.int (nI c)), some (.int (nI m)), some (.int (nI k)), some (.int (nI (tk b r c (bp b)))), some (.int (nI v))], [.int (nI k), .int (nI m), .int (nI (c + 1)), .ref 27, .ref 6], fbH sc F S G Y M T (C1, upd R1 c (nI v)) V A Z)) (by
            rw [← nI_add c 1, e1] <;> rfl) ?_
          refine mj_cS rfl rfl rfl rfl (k2) ?_
          rw [q]
          refine mj_b0 40 rfl ?_
          cases hf2 : fs b k j (c + 1) (uN r c v) with
          | none =>
            have ih := ih (v + 1) R' (by omega) hR'
            rw [← nI_add v 1] at ih
            refine mj_brt (show bI false = 0 by decide) ?_
            refine mj_b0 2 rfl ?_
            exact ih
          | some x =>
            refine mj_brf (show ¬ bI true = 0 by decide) ?_
            refine mj_b0 40 rfl ?_
            exact mj_end rfl rfl (Or.inr rfl) ⟨rfl, R', hR', fun y hy => by cases hy; exact k3 x hf2, rfl⟩
        · have q2 : tk b r c (bp b) / 2 ^ v % 2 = 1 := (Nat.mod_two_eq_zero_or_one _).resolve_left (fun z => q ((g2 v hv4).mp z))
          have q3 : okB b r c v = false := by
            cases hh : okB b r c v with
            | false => rfl
            | true => exact absurd hh q
          have ih := ih (v + 1) R1 (by omega) hR
          rw [← nI_add v 1] at ih
          refine mj_brt (by rw [q2]; exact (show ¬ nI 1 = 0 by decide)) ?_
          refine mj_b0 2 rfl ?_
          rw [q3]
          exact ih
    have kk : ∃ r2 h2, mj_C (d + 3 + j + 1) nX1_fillFrom [.ref 6, .ref 27, .int (nI c), .int (nI m), .int (nI k)] (fbH sc F S G Y M T (C1, R) V A Z) r2 h2 ∧ (r2 = some (.int (bI (fs b k (j + 1) c r).isSome)) ∧ ∃ R', (∀ i, i < c → R' i = R i) ∧ (∀ x, fs b k (j + 1) c r = some x → ∀ i, i < m → R' i = nI (x i)) ∧ h2 = fbH sc F S G Y M T (C1, R') V A Z) := by
      refine mj_C.ex rfl rfl rfl ?_
      refine mj_b0 40 rfl ?_
      refine mj_brf (nI_ge hcm (by omega)) ?_
      refine mj_b0 40 rfl ?_
      refine mj_brt (show nI c < nI 16 from nI_lt (by omega) (by omega)) ?_
      refine mj_b0 40 rfl ?_
      have ht := c_takenBeside (sc := sc) (F := F) (S := S) (Y := Y) (M := M) (T := T) (C1 := C1) (V := V) (A := A) (Z := Z) (d := d + 1 + j) hb h (show c < bn b by omega) (show c < 16 by omega) hr
      rw [show d + 1 + j + 2 = d + 3 + j by omega] at ht
      refine mj_cS rfl rfl rfl rfl (ht) ?_
      refine mj_b0 3 rfl ?_
      exact main k 0 R (by omega) (fun _ _ => rfl)
    obtain ⟨r2, h2, k1, rfl, R', k2, k3, rfl⟩ := kk
    exact ⟨R', k2, k3, k1⟩
end CK
