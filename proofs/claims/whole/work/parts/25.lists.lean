/-! the rows of what is at the sides: read -/
/-- the rows as the model would have them: it has none -/
def gBe (b : Nat) : Nat → fA
  | 0 => fun _ => 0
  | c + 1 => fun k => if tSt b c ≤ k then nI (tNb b c (k - tSt b c)) else gBe b c k
theorem gBe_ok {b c i : Nat} : ∀ {n : Nat}, c < n → i < tDg b c → gBe b n (tSt b c + i) = nI (tNb b c i)
  | 0, h, _ => absurd h (Nat.not_lt_zero c)
  | n + 1, h, hi => by
    show (if tSt b n ≤ tSt b c + i then nI (tNb b n (tSt b c + i - tSt b n)) else gBe b n (tSt b c + i)) = _
    by_cases e : c = n
    · subst e
      rw [if_pos (by omega), show tSt b c + i - tSt b c = i by omega]
    · have := tSt_le (b := b) (show c + 1 ≤ n by omega)
      rw [tSt_s] at this
      rw [if_neg (by omega)]
      exact gBe_ok (by omega) hi
/-- runs over the sides, the EDGES passed over, told by the row -/
def nbp (b c i : Nat) : Nat := if i < tDg b c then i else bp b
theorem nbp_s {b c i : Nat} (hb : b < 22) (hi : i < tDg b c) : nbp b c (i + 1) = sdx b c i + 1 := by
  have t0 := tb0 hb
  unfold nbp sdx
  by_cases q : i + 1 < tDg b c
  · rw [if_pos q, if_pos q]
  · rw [if_neg q, if_neg q]; omega
theorem nbp_end (b c : Nat) : nbp b c (tDg b c) = bp b := if_neg (by omega)
theorem skip_to {α : Type} {b c : Nat} (hb : b < 22) (hc : c < bn b) (X : Nat → α) (hX : ∀ s, s < bp b → tAt b c s = 1023 → X (s + 1) = X s) : ∀ (j s : Nat), s + j < bp b ∨ (s + j = bp b ∧ tDg b c = 0) → tDg b c ≤ s + 1 → X (s + j) = X s
  | 0, s, _, _ => rfl
  | j + 1, s, h1, h2 => by
    rw [show s + (j + 1) = s + j + 1 by omega, hX (s + j) (by omega) ((tbt hb hc (by omega)).mpr (by omega))]
    exact skip_to hb hc X hX j s (by omega) h2
theorem nbp_at {α : Type} {b c i : Nat} (hb : b < 22) (hc : c < bn b) (X : Nat → α) (hX : ∀ s, s < bp b → tAt b c s = 1023 → X (s + 1) = X s) (hi : i < tDg b c) : X (nbp b c i) = X (sdx b c i) := by
  have t0 := tb0 hb
  have td := tDg_le hb c
  unfold nbp sdx
  rw [if_pos hi]
  by_cases q : i + 1 < tDg b c
  · rw [if_pos q]
  · rw [if_neg q]
    have := skip_to hb hc X hX (bp b - 1 - i) i (by omega) (by omega)
    rw [show i + (bp b - 1 - i) = bp b - 1 by omega] at this
    exact this.symm
theorem nbp_0 {α : Type} {b c : Nat} (hb : b < 22) (hc : c < bn b) (X : Nat → α) (hX : ∀ s, s < bp b → tAt b c s = 1023 → X (s + 1) = X s) : X (nbp b c 0) = X 0 := by
  unfold nbp
  by_cases q : 0 < tDg b c
  · rw [if_pos q]
  · rw [if_neg q]
    have := skip_to hb hc X hX (bp b) 0 (by omega) (by omega)
    rw [Nat.zero_add] at this
    exact this
/-- one more of the row -/
theorem nbp_n {α : Type} {b c i : Nat} (hb : b < 22) (hc : c < bn b) (X : Nat → α) (hX : ∀ s, s < bp b → tAt b c s = 1023 → X (s + 1) = X s) (hi : i < tDg b c) : ∃ s, s < bp b ∧ tAt b c s = tNb b c i ∧ X (nbp b c i) = X s ∧ X (nbp b c (i + 1)) = X (s + 1) :=
  ⟨sdx b c i, sdx_lt hb hi, rfl, nbp_at hb hc X hX hi, by rw [nbp_s hb hi]⟩
/-- numbers of the rows -/
theorem st_lt {b c : Nat} (hb : b < 22) (hc : c < bn b) : tSt b c + tDg b c ≤ 2400 := by
  have t1 := tbs hb
  have t2 := tSt_le (b := b) (show c + 1 ≤ bn b by omega)
  rw [tSt_s] at t2
  omega
theorem Bd.st {b c : Nat} {G : fG} (h : Bd b G) (hc : c < bn b) : gbs G c = nI (tSt b c) := h.2.2.2.2.2.2.1 c (by omega)
theorem Bd.sn {b c : Nat} {G : fG} (h : Bd b G) (hc : c < bn b) : gbs G (c + 1) = nI (tSt b c + tDg b c) := h.2.2.2.2.2.2.1 (c + 1) (by omega)
theorem Bd.nb {b c i : Nat} {G : fG} (h : Bd b G) (hc : c < bn b) (hi : i < tDg b c) : gbe G (tSt b c + i) = nI (tNb b c i) := h.2.2.2.2.2.2.2 c hc i hi
theorem Bd.at {b c s : Nat} {G : fG} (h : Bd b G) (hc : c < bn b) (hs : s < bp b) : gat G (c * 10 + s) = nv (tAt b c s) := h.2.2.2.2.2.1 c hc s hs
theorem tDg_0 {b c : Nat} (h : tDg b c = 0) (hb : b < 22) : c = 0 := by
  have t0 := tb0 hb
  unfold tDg at h
  by_cases q : c = 0
  · exact q
  · rw [if_neg q] at h
    revert h
    split <;> omega
theorem m1_le (s : Nat) (h : s < 2 ^ 31) : nI 0 - nI 1 - nI 0 ≤ nI s := by
  rw [Int32.le_iff_toInt_le, nI_toInt h]
  have : (nI 0 - nI 1 - nI 0 : Int32).toInt = -1 := by decide
  omega
section GX
variable {sc : mj_E} {F : Int32 × Int32} {S : fA × fA × fA} {G : fG} {Y : fY} {M : fM} {T : fT} {C : fC} {V : fV} {A : fA × Int32} {Z : mj_H} {d : Nat}
theorem c_beyond {b c s : Nat} (hb : b < 22) (h : Bd b G) (hc : c < bn b) (hs : s < bp b) : mj_C (d + 1) nX2_beyond [.ref 6, .int (nI c), .int (nI s)] (fbH sc F S G Y M T C V A Z) (some (.int (gat G (c * 10 + s)))) (fbH sc F S G Y M T C V A Z) := by
  have t0 := tb0 hb
  have ts := st_lt hb hc
  have td := tDg_le hb c
  have tt := tbt hb hc hs
  have e1 : (nI c).toNatClampNeg = c := nI_clamp (by omega)
  have e2 : nI c + mj_kc 1 = nI (c + 1) := nI_add c 1
  have e3 : (nI (c + 1)).toNatClampNeg = c + 1 := nI_clamp (by omega)
  have h1 := h.st hc
  have h2 := h.sn hc
  have h3 := h.at hc hs
  refine mj_C.of rfl rfl rfl ?_
  refine mj_b1 15 rfl ⟨nI_ix (show c < 401 by omega) (by omega), by rw [e2]; exact nI_ix (show c + 1 < 401 by omega) (by omega)⟩ ?_
  rw [e2, e1, e3]
  show mj_R _ _ _ _ _ (_, [some (Value.ref 6), some (Value.int (nI c)), some (Value.int (nI s)), some (Value.int (gbs G c)), some (Value.int (gbs G (c + 1) - nI 1))], _, _) _
  rw [h1, h2]
  by_cases q0 : tDg b c = 0
  · have hc0 := tDg_0 q0 hb
    subst hc0
    rw [q0, tSt_0]
    refine mj_b0 40 rfl ?_
    refine mj_brt (m1_le s (by omega)) ?_
    have fin : mj_R (mj_C d) 2 false (some .int) iX2_beyond (62, [some (Value.ref 6), some (Value.int (nI 0)), some (Value.int (nI s)), some (Value.int (nI 0)), some (Value.int (nI (0 + 0) - nI 1))], [], fbH sc F S G Y M T C V A Z) (fun r h' => r = some (.int (gat G (0 * 10 + s))) ∧ h' = fbH sc F S G Y M T C V A Z) := by
      refine mj_b0 40 rfl ?_
      exact mj_end rfl rfl trivial ⟨by rw [h3, tt.mpr (by omega)]; rfl, rfl⟩
    refine mj_b0 40 rfl ?_
    by_cases q1 : s + 1 = bp b
    · refine mj_brf (by show ¬ ¬ nI s = gsd G - nI 1; rw [h.1, pk_sub (by omega), show bp b - 1 = s by omega]; exact fun z => z rfl) ?_
      refine mj_b0 40 rfl ?_
      refine mj_brt (by show nI (0 + 0) - nI 1 < nI 0; decide) ?_
      exact fin
    · refine mj_brt (by show ¬ nI s = gsd G - nI 1; rw [h.1, pk_sub (by omega)]; exact fun z => q1 (by have := (nI_eq (by omega) (by omega)).mp z; omega)) ?_
      exact fin
  · have e4 : nI (tSt b c + tDg b c) - nI 1 = nI (tSt b c + tDg b c - 1) := pk_sub (by omega)
    rw [e4]
    refine mj_b0 40 rfl ?_
    have e5 : nI (tSt b c + tDg b c - 1) - nI (tSt b c) = nI (tDg b c - 1) := by rw [pk_sub (by omega)]; congr 1; omega
    rw [e5]
    by_cases q1 : s + 1 < tDg b c
    · have e6 : nI (tSt b c) + nI s = nI (tSt b c + s) := nI_add _ _
      have e7 : (nI (tSt b c + s)).toNatClampNeg = tSt b c + s := nI_clamp (by omega)
      refine mj_brf (nI_ge (by omega) (by omega)) ?_
      refine mj_b1 40 rfl (by rw [e6]; exact nI_ix (show tSt b c + s < 2400 by omega) (by omega)) ?_
      refine mj_end rfl rfl trivial ⟨?_, rfl⟩
      show some (Value.int (gbe G (nI (tSt b c) + nI s).toNatClampNeg)) = _
      have ok := (tNb_ok hb hc (show s < tDg b c by omega)).1
      rw [e6, e7, h3, h.nb hc (by omega), nv_is (by rw [← tNb_at q1]; exact ok), tNb_at q1]
    · refine mj_brt (nI_le (by omega) (by omega)) ?_
      refine mj_b0 40 rfl ?_
      by_cases q2 : s + 1 = bp b
      · have e7 : (nI (tSt b c + tDg b c - 1)).toNatClampNeg = tSt b c + (tDg b c - 1) := by rw [nI_clamp (by omega)]; omega
        refine mj_brf (by show ¬ ¬ nI s = gsd G - nI 1; rw [h.1, pk_sub (by omega), show bp b - 1 = s by omega]; exact fun z => z rfl) ?_
        refine mj_b0 40 rfl ?_
        refine mj_brf (nI_nlt (by omega) (by omega)) ?_
        refine mj_b1 40 rfl (nI_ix (show tSt b c + tDg b c - 1 < 2400 by omega) (by omega)) ?_
        refine mj_end rfl rfl trivial ⟨?_, rfl⟩
        show some (Value.int (gbe G (nI (tSt b c + tDg b c - 1)).toNatClampNeg)) = _
        have hl : tNb b c (tDg b c - 1) = tAt b c s := by rw [tNb_last (by omega), show bp b - 1 = s by omega]
        have ok := (tNb_ok hb hc (show tDg b c - 1 < tDg b c by omega)).1
        rw [e7, h3, h.nb hc (by omega), hl, nv_is (by rw [← hl]; exact ok)]
      · refine mj_brt (by show ¬ nI s = gsd G - nI 1; rw [h.1, pk_sub (by omega)]; exact fun z => q2 (by have := (nI_eq (by omega) (by omega)).mp z; omega)) ?_
        refine mj_b0 40 rfl ?_
        exact mj_end rfl rfl trivial ⟨by rw [h3, tt.mpr (by omega)]; rfl, rfl⟩
theorem sdTo_skip {f : Nat → Int32} {o : Int32} : ∀ (j k m : Nat), (∀ i, k ≤ i → i < k + j → f i ≠ o) → sdTo f o (j + m) k = sdTo f o m (k + j)
  | 0, k, m, _ => by rw [Nat.zero_add]; rfl
  | j + 1, k, m, h => by
    rw [show j + 1 + m = (j + m) + 1 by omega, sdTo, if_neg (h k (Nat.le_refl _) (by omega)), sdTo_skip j (k + 1) m (fun i a1 a2 => h i (by omega) (by omega)), show k + 1 + j = k + (j + 1) by omega]
theorem l_sideTo {b c : Nat} (hb : b < 22) (h : Bd b G) (hc : c < bn b) {o : Int32} (ho : o ≠ NO) (q0 : tDg b c ≠ 0) : ∀ (j i : Nat), j + i = tDg b c → (∀ i', i' < i → tNb b c i' < bn b → nI (tNb b c i') ≠ o) → mj_R (mj_C (d + 1)) 2 false (some .int) iX2_sideTo (22, [some (.ref 6), some (.int (nI c)), some (.int o), some (.int (nI (tSt b c))), some (.int (nI (tSt b c + tDg b c - 1))), some (.int (nI (tSt b c + i)))], [], fbH sc F S G Y M T C V A Z) (fun r h' => r = some (.int (sdTo (fun s => gat G (c * 10 + s)) o (bp b) 0)) ∧ h' = fbH sc F S G Y M T C V A Z)
  | 0, i, hj, hn => by
    have t0 := tb0 hb
    have ts := st_lt hb hc
    rw [Nat.zero_add] at hj
    subst hj
    refine mj_b0 40 rfl ?_
    refine mj_brt (nI_lt (by omega) (by omega)) ?_
    refine mj_b0 40 rfl ?_
    refine mj_end rfl rfl trivial ⟨?_, rfl⟩
    have e := sdTo_skip (f := fun s => gat G (c * 10 + s)) (o := o) (bp b) 0 0 (fun s _ hs => by
      show gat G (c * 10 + s) ≠ o
      have hs : s < bp b := by omega
      rw [h.at hc hs]
      by_cases z : tAt b c s = 1023
      · rw [z]; exact fun w => ho w.symm
      · have tt := tbt hb hc hs
        have tt2 : s + 1 < tDg b c ∨ (s + 1 = bp b ∧ 0 < tDg b c) := Decidable.not_not.mp (fun w => z (tt.mpr w))
        rw [nv_is z]
        rcases tt2 with w | w
        · have := hn s (by omega) (tNb_ok hb hc (by omega)).2.1
          rw [tNb_at w] at this
          exact this
        · have := hn (tDg b c - 1) (by omega) (tNb_ok hb hc (by omega)).2.1
          rw [tNb_last (by omega), show bp b - 1 = s by omega] at this
          exact this)
    rw [Nat.add_zero] at e
    rw [e]
    rfl
  | j + 1, i, hj, hn => by
    have t0 := tb0 hb
    have ts := st_lt hb hc
    have td := tDg_le hb c
    have e1 : (nI (tSt b c + i)).toNatClampNeg = tSt b c + i := nI_clamp (by omega)
    have ok := tNb_ok hb hc (show i < tDg b c by omega)
    refine mj_b0 40 rfl ?_
    refine mj_brf (nI_nlt (by omega) (by omega)) ?_
    refine mj_b1 40 rfl (nI_ix (show tSt b c + i < 2400 by omega) (by omega)) ?_
    rw [e1]
    by_cases z : nI (tNb b c i) = o
    · refine mj_brf (by show ¬ ¬ gbe G (tSt b c + i) = o; rw [h.nb hc (by omega)]; exact fun w => w z) ?_
      refine mj_b0 40 rfl ?_
      have hlt : ∀ s, s < i → gat G (c * 10 + s) ≠ o := fun s hs => by
        rw [h.at hc (by omega), ← tNb_at (show s + 1 < tDg b c by omega)]
        have w := tNb_ok hb hc (show s < tDg b c by omega)
        rw [nv_is w.1]
        exact hn s hs w.2.1
      by_cases q : i + 1 < tDg b c
      · refine mj_brf (nI_ge (by omega) (by omega)) ?_
        refine mj_b0 40 rfl ?_
        have e2 : nI (tSt b c + i) - nI (tSt b c) = nI i := by rw [pk_sub (by omega)]; congr 1; omega
        refine mj_end rfl rfl trivial ⟨?_, rfl⟩
        rw [e2]
        have e := sdTo_skip (f := fun s => gat G (c * 10 + s)) (o := o) i 0 (bp b - i) (fun s _ hs => hlt s (by omega))
        rw [show i + (bp b - i) = bp b by omega, Nat.zero_add] at e
        rw [e, show bp b - i = bp b - i - 1 + 1 by omega, sdTo, if_pos (show gat G (c * 10 + i) = o by rw [h.at hc (by omega), ← tNb_at q, nv_is ok.1]; exact z)]
      · refine mj_brt (nI_le (by omega) (by omega)) ?_
        refine mj_b0 40 rfl ?_
        refine mj_end rfl rfl trivial ⟨?_, rfl⟩
        show some (Value.int (gsd G - nI 1)) = _
        have e := sdTo_skip (f := fun s => gat G (c * 10 + s)) (o := o) (bp b - 1) 0 1 (fun s _ hs => by
          show gat G (c * 10 + s) ≠ o
          by_cases w : s < i
          · exact hlt s w
          · rw [h.at hc (by omega), (tbt hb hc (show s < bp b by omega)).mpr (by omega)]
            exact fun w => ho w.symm)
        rw [show bp b - 1 + 1 = bp b by omega, Nat.zero_add] at e
        rw [e, h.1, pk_sub (by omega), sdTo, if_pos (show gat G (c * 10 + (bp b - 1)) = o by rw [h.at hc (by omega), ← tNb_last q, nv_is ok.1]; exact z)]
    · refine mj_brt (by show ¬ gbe G (tSt b c + i) = o; rw [h.nb hc (by omega)]; exact z) ?_
      refine mj_b0 2 rfl ?_
      have ih := l_sideTo hb h hc ho q0 j (i + 1) (by omega) (fun i' a1 a2 => by
        by_cases e : i' = i
        · subst e; exact z
        · exact hn i' (by omega) a2)
      rw [show tSt b c + (i + 1) = tSt b c + i + 1 by omega, ← nI_add (tSt b c + i) 1] at ih
      exact ih
theorem c_sideTo {b c : Nat} (hb : b < 22) (h : Bd b G) (hc : c < bn b) {o : Int32} (ho : o ≠ NO) : mj_C (d + 2) nX2_sideTo [.ref 6, .int (nI c), .int o] (fbH sc F S G Y M T C V A Z) (some (.int (sdTo (fun s => gat G (c * 10 + s)) o (bp b) 0))) (fbH sc F S G Y M T C V A Z) := by
  have t0 := tb0 hb
  have ts := st_lt hb hc
  have e1 : (nI c).toNatClampNeg = c := nI_clamp (by omega)
  have e2 : nI c + mj_kc 1 = nI (c + 1) := nI_add c 1
  have e3 : (nI (c + 1)).toNatClampNeg = c + 1 := nI_clamp (by omega)
  have h1 := h.st hc
  have h2 := h.sn hc
  refine mj_C.of rfl rfl rfl ?_
  refine mj_b1 16 rfl ⟨nI_ix (show c < 401 by omega) (by omega), by rw [e2]; exact nI_ix (show c + 1 < 401 by omega) (by omega)⟩ ?_
  rw [e2, e1, e3]
  show mj_R _ _ _ _ _ (_, [some (Value.ref 6), some (Value.int (nI c)), some (Value.int o), some (Value.int (gbs G c)), some (Value.int (gbs G (c + 1) - nI 1)), some (Value.int (gbs G c))], _, _) _
  rw [h1, h2]
  by_cases q0 : tDg b c = 0
  · have hc0 := tDg_0 q0 hb
    subst hc0
    rw [q0, tSt_0]
    refine mj_b0 40 rfl ?_
    refine mj_brt (by show nI (0 + 0) - nI 1 < nI 0; decide) ?_
    refine mj_b0 40 rfl ?_
    refine mj_end rfl rfl trivial ⟨?_, rfl⟩
    have e := sdTo_skip (f := fun s => gat G (0 * 10 + s)) (o := o) (bp b) 0 0 (fun s _ hs => by
      show gat G (0 * 10 + s) ≠ o
      rw [h.at hc (by omega), (tbt hb hc (by omega)).mpr (by omega)]
      exact fun w => ho w.symm)
    rw [Nat.add_zero] at e
    rw [e]
    rfl
  · rw [pk_sub (show 1 ≤ tSt b c + tDg b c by omega)]
    exact l_sideTo (d := d) hb h hc ho q0 (tDg b c) 0 (by omega) (fun i' a => absurd a (Nat.not_lt_zero i'))
end GX
