/-! promise 18: the class's unrolling -/
section UN
variable {sc : mj_E} {F : Int32 × Int32} {S : fA × fA × fA} {G : fG} {Y : fY} {M : fM} {C : fC} {V : fV} {A : fA × Int32} {Z : mj_H} {d : Nat}
variable {t1 t2 t3 t4 : fA} {fp : Int32} {q : Nat → Nat} {n : Nat} {Q : Option Value → mj_H → Prop}
theorem lc_adv {c : Int32} {dp o i : Nat} {o5 : Option Value} (hT : tpB q n t2) (hi : i < n) (k : mj_R (mj_C (d + 2)) 6 false (some .int) iX6_unroll (9, [some (.ref 21), some (.int c), some (.int (nI dp)), some (.int (nI o)), some (.int (nI (i + max 1 (fg q n i)))), o5], [], fbH sc F S G Y M (t1, t2, t3, t4, nI n, fp) C V A Z) Q) : mj_R (mj_C (d + 2)) 6 false (some .int) iX6_unroll (114, [some (.ref 21), some (.int c), some (.int (nI dp)), some (.int (nI o)), some (.int (nI i)), o5], [], fbH sc F S G Y M (t1, t2, t3, t4, nI n, fp) C V A Z) Q := by
  have hn := hT.1
  have hfl := fg_le q (show i ≤ n by omega)
  refine mj_b0 40 rfl ?_
  refine mj_cV rfl rfl rfl rfl rfl rfl (c_figuresFrom hT (by omega)) ?_
  refine mj_b0 1 rfl ?_
  rw [show (if mj_kc 1 < nI (fg q n i) then nI (fg q n i) else mj_kc 1) = nI (max 1 (fg q n i)) from mx1 (by omega)]
  refine mj_b0 3 rfl ?_
  rw [nI_add]
  exact k
theorem lc_skip {x dp o : Nat} (hT : tpB q n t2) (hx : x ≤ 2000) : ∀ (j i : Nat) (o5 : Option Value), n - i ≤ j → i ≤ n → (∀ (i' : Nat) (o5' : Option Value), i' ≤ n → tl q n i' = tl q n i → (i' = n ∨ ¬ isB (q i')) → mj_R (mj_C (d + 2)) 6 false (some .int) iX6_unroll (9, [some (.ref 21), some (.int (nI x)), some (.int (nI dp)), some (.int (nI o)), some (.int (nI i')), o5'], [], fbH sc F S G Y M (t1, t2, t3, t4, nI n, fp) C V A Z) Q) → mj_R (mj_C (d + 2)) 6 false (some .int) iX6_unroll (9, [some (.ref 21), some (.int (nI x)), some (.int (nI dp)), some (.int (nI o)), some (.int (nI i)), o5], [], fbH sc F S G Y M (t1, t2, t3, t4, nI n, fp) C V A Z) Q := by
  have hn := hT.1
  intro j
  induction j with
  | zero => intro i o5 hj hi kk; exact kk i o5 hi rfl (Or.inl (by omega))
  | succ j ih =>
    intro i o5 hj hi kk
    rcases Nat.lt_or_ge i n with hin | hin
    rotate_left
    · exact kk i o5 hi rfl (Or.inl (by omega))
    by_cases hb : q i = 32 ∨ q i = 10
    · obtain ⟨hb1, hb2⟩ := hT.2 i hin
      have e1 : (nI i).toNatClampNeg = i := nI_clamp (by omega)
      have hnf : ¬ isF (q i) := fun z => nb_f z hb
      have ih := ih (i + 1) (some (.int (sb (q i)))) (by omega) (by omega) (fun i' o5' a1 a2 a3 => kk i' o5' a1 (by rw [a2, tl_b hin hb]) a3)
      refine mj_b0 40 rfl ?_
      refine mj_brf (nI_ge hin (by omega)) ?_
      refine mj_b0 40 rfl ?_
      refine mj_brf (show ¬ nI 2000 < nI x from nI_nlt hx (by omega)) ?_
      refine mj_b1 40 rfl (nI_ix (show i < 300 by omega) (by omega)) ?_
      rw [e1, show (t1, t2, t3, t4, nI n, fp).2.1 i = sb (q i) from hb1]
      refine mj_cS rfl rfl rfl rfl (c_isBlank hb2) ?_
      refine mj_b0 40 rfl ?_
      refine mj_brf (fun z => vB_0.mp z hb) ?_
      refine mj_b0 1 rfl ?_
      refine lc_adv hT hin ?_
      rw [fg_f hnf]
      exact ih
    · exact kk i o5 hi rfl (Or.inr hb)
/-- where too much has been told -/
theorem lc_over {dp o i : Nat} {o5 : Option Value} (hT : tpB q n t2) (hi : i ≤ n) (kn : ∀ t1 t3 t4, Q (some (.int (nI 2001))) (fbH sc F S G Y M (t1, t2, t3, t4, nI n, fp) C V A Z)) : mj_R (mj_C (d + 2)) 6 false (some .int) iX6_unroll (9, [some (.ref 21), some (.int (nI 2001)), some (.int (nI dp)), some (.int (nI o)), some (.int (nI i)), o5], [], fbH sc F S G Y M (t1, t2, t3, t4, nI n, fp) C V A Z) Q := by
  have hn := hT.1
  refine mj_b0 40 rfl ?_
  rcases Nat.lt_or_ge i n with hin | hin
  · refine mj_brf (nI_ge hin (by omega)) ?_
    refine mj_b0 40 rfl ?_
    refine mj_brt (show nI 2000 < nI 2001 by decide) ?_
    refine mj_b0 40 rfl ?_
    exact mj_end rfl rfl trivial (kn _ _ _)
  · refine mj_brt (nI_le hin (by omega)) ?_
    refine mj_b0 40 rfl ?_
    exact mj_end rfl rfl trivial (kn _ _ _)
theorem kdT2 {c : Nat} (h : kdT c = 2) : c = 102 ∨ c = 108 ∨ c = 114 ∨ c = 98 := by
  unfold kdT at h
  by_cases q : c = 102 ∨ c = 108 ∨ c = 114 ∨ c = 98
  · exact q
  · rw [if_neg q] at h
    split at h
    · omega
    · split at h <;> omega
theorem kdT4 {c : Nat} (h : kdT c = 4) : c = 40 := by
  unfold kdT at h
  split at h
  · omega
  · split at h
    · assumption
    · split at h <;> omega
theorem kdT5 {c : Nat} (h : kdT c = 5) : c = 41 := by
  unfold kdT at h
  split at h
  · omega
  · split at h
    · omega
    · split at h
      · assumption
      · omega
/-- what is at a place where no blank is -/
theorem tl_at {k v p i : Nat} {r : List tkT} (hi : i ≤ n) (h : tl q n i = (k, v, p) :: r) (hb : i = n ∨ ¬ isB (q i)) : i < n ∧ ((isF (q i) ∧ (k, v, p) = ((if fg q n i ≤ 2 then 3 else 0), nu q n i, i) ∧ r = tl q n (i + fg q n i)) ∨ (¬ isF (q i) ∧ (k, v, p) = (kdT (q i), q i, i) ∧ r = tl q n (i + 1))) := by
  rcases hb with e | hb
  · rw [e, tl_n (Nat.le_refl _)] at h
    cases h
  · have hin : i < n := by
      rcases Nat.lt_or_ge i n with z | z
      · exact z
      · rw [tl_n z] at h
        cases h
    refine ⟨hin, ?_⟩
    by_cases hf : isF (q i)
    · rw [tl_f hin hf] at h
      injection h with h1 h2
      exact Or.inl ⟨hf, h1.symm, h2.symm⟩
    · rw [tl_o hin hb hf] at h
      injection h with h1 h2
      exact Or.inr ⟨hf, h1.symm, h2.symm⟩
theorem lc_item {f : Nat} (hT : tpB q n t2) (IH : ∀ (dp : Nat) (ts : List tkT) (a : List Nat) (e : List tkT), seg f dp ts = some (a, e) → dp ≤ 4 → ∀ (i : Nat) (L : List Nat) (t1 t3 t4 : fA) (o5 : Option Value), tl q n i = ts → i ≤ n → acH t1 L → L.length ≤ 2000 → (¬ L.length + a.length ≤ 2000 → ∀ t1 t3 t4, Q (some (.int (nI 2001))) (fbH sc F S G Y M (t1, t2, t3, t4, nI n, fp) C V A Z)) → (L.length + a.length ≤ 2000 → ∀ (i' : Nat) (t1' t3' t4' : fA) (o5' : Option Value), tl q n i' = e → i' ≤ n → acH t1' (L ++ a) → (∀ x, x < dp → t3' x = t3 x ∧ t4' x = t4 x) → mj_R (mj_C (d + 2)) 6 false (some .int) iX6_unroll (9, [some (.ref 21), some (.int (nI (L.length + a.length))), some (.int (nI dp)), some (.int (nI 1)), some (.int (nI i')), o5'], [], fbH sc F S G Y M (t1', t2, t3', t4', nI n, fp) C V A Z) Q) → mj_R (mj_C (d + 2)) 6 false (some .int) iX6_unroll (9, [some (.ref 21), some (.int (nI L.length)), some (.int (nI dp)), some (.int (nI 1)), some (.int (nI i)), o5], [], fbH sc F S G Y M (t1, t2, t3, t4, nI n, fp) C V A Z) Q) {dp o : Nat} {ts : List tkT} {a : List Nat} {e : List tkT} (ho : 1 ≤ o) (ho2 : o ≤ 20) (hs : sg1 (seg f) dp o ts = some (a, e)) (hdp : dp ≤ 4) {i : Nat} {L : List Nat} {t1 t3 t4 : fA} {o5 : Option Value} (ht : tl q n i = ts) (hi : i ≤ n) (hA : acH t1 L) (hL : L.length ≤ 2000) (kn : (¬ L.length + a.length ≤ 2000 → ∀ t1 t3 t4, Q (some (.int (nI 2001))) (fbH sc F S G Y M (t1, t2, t3, t4, nI n, fp) C V A Z))) (kk : (L.length + a.length ≤ 2000 → ∀ (i' : Nat) (t1' t3' t4' : fA) (o5' : Option Value), tl q n i' = e → i' ≤ n → acH t1' (L ++ a) → (∀ x, x < dp → t3' x = t3 x ∧ t4' x = t4 x) → mj_R (mj_C (d + 2)) 6 false (some .int) iX6_unroll (9, [some (.ref 21), some (.int (nI (L.length + a.length))), some (.int (nI dp)), some (.int (nI 1)), some (.int (nI i')), o5'], [], fbH sc F S G Y M (t1', t2, t3', t4', nI n, fp) C V A Z) Q)) : mj_R (mj_C (d + 2)) 6 false (some .int) iX6_unroll (9, [some (.ref 21), some (.int (nI L.length)), some (.int (nI dp)), some (.int (nI o)), some (.int (nI i)), o5], [], fbH sc F S G Y M (t1, t2, t3, t4, nI n, fp) C V A Z) Q := by
  have hn := hT.1
  refine lc_skip hT hL (n - i) i o5 (Nat.le_refl _) hi (fun i1 o51 a1 a2 a3 => ?_)
  rw [ht] at a2
  cases ts with
  | nil => cases hs
  | cons x r =>
    obtain ⟨k, v, p⟩ := x
    obtain ⟨hin, ⟨hf, e1, e2⟩ | ⟨hf, e1, e2⟩⟩ := tl_at a1 a2 a3
    · exfalso
      have hk : k = 3 ∨ k = 0 := by
        injection e1 with e3 e4
        rw [e3]
        split
        · exact Or.inl rfl
        · exact Or.inr rfl
      have hs' : (if k = 2 then sgA (rep o [v]) (seg f dp r) else if k = 4 ∧ dp < 4 then sgG o (seg f dp) (seg f (dp + 1) r) else none) = some (a, e) := hs
      rw [if_neg (by omega), if_neg (by omega)] at hs'
      cases hs'
    · injection e1 with e3 e4
      injection e4 with e4 e5
      have hs' : (if k = 2 then sgA (rep o [v]) (seg f dp r) else if k = 4 ∧ dp < 4 then sgG o (seg f dp) (seg f (dp + 1) r) else none) = some (a, e) := hs
      have hb : ¬ isB (q i1) := a3.resolve_left (by omega)
      obtain ⟨hb1, hb2⟩ := hT.2 i1 hin
      have c1 : (nI i1).toNatClampNeg = i1 := nI_clamp (by omega)
      by_cases k2 : k = 2
      · rw [if_pos k2] at hs'
        rw [k2] at e3
        have hlet := kdT2 e3.symm
        cases hsg : seg f dp r with
        | none => rw [hsg] at hs'; cases hs'
        | some ae =>
          obtain ⟨a2', e2'⟩ := ae
          rw [hsg] at hs'
          have hs2 : some (rep o [v] ++ a2', e2') = some (a, e) := hs'
          injection hs2 with hs3
          injection hs3 with ha he
          subst ha
          subst he
          rw [e4] at kk kn
          rw [List.length_append, rep_len] at kk kn
          simp only [List.length_cons, List.length_nil, Nat.zero_add, Nat.mul_one] at kk kn
          obtain ⟨t1', k1, k3⟩ := x_tadd (sc := sc) (F := F) (S := S) (G := G) (Y := Y) (M := M) (t2 := t2) (t3 := t3) (t4 := t4) (ln := nI n) (fp := fp) (C := C) (V := V) (A := A) (Z := Z) (d := d) (l := q i1) ho ho2 (by omega) hA hL
          refine mj_b0 40 rfl ?_
          refine mj_brf (nI_ge hin (by omega)) ?_
          refine mj_b0 40 rfl ?_
          refine mj_brf (show ¬ nI 2000 < nI L.length from nI_nlt hL (by omega)) ?_
          refine mj_b1 40 rfl (nI_ix (show i1 < 300 by omega) (by omega)) ?_
          rw [c1, show (t1, t2, t3, t4, nI n, fp).2.1 i1 = sb (q i1) from hb1]
          refine mj_cS rfl rfl rfl rfl (c_isBlank hb2) ?_
          refine mj_b0 40 rfl ?_
          refine mj_brt (vB_0.mpr hb) ?_
          refine mj_b0 40 rfl ?_
          refine mj_cS rfl rfl rfl rfl (c_isFigure hb2) ?_
          refine mj_b0 40 rfl ?_
          refine mj_brt (vB_0.mpr hf) ?_
          refine mj_b0 40 rfl ?_
          refine mj_brt (fun z => by have := (sb_eq (c := 40) hb2 (by decide)).mp z; omega) ?_
          refine mj_b0 40 rfl ?_
          refine mj_brt (fun z => by have := (sb_eq (c := 41) hb2 (by decide)).mp z; omega) ?_
          refine mj_b0 40 rfl ?_
          refine mj_cV rfl rfl rfl rfl rfl rfl (k1) ?_
          refine mj_b0 3 rfl ?_
          refine lc_adv hT hin ?_
          rw [fg_f hf, show i1 + max 1 0 = i1 + 1 from rfl]
          by_cases hfit : L.length + o ≤ 2000
          · rw [if_pos hfit]
            have hl2 : (L ++ rep o [q i1]).length = L.length + o := by
              rw [List.length_append, rep_len]
              simp only [List.length_cons, List.length_nil, Nat.zero_add, Nat.mul_one]
            have g := IH dp r a2' e2' hsg hdp (i1 + 1) (L ++ rep o [q i1]) t1' t3 t4 (some (.int (sb (q i1)))) e2.symm (by omega) (k3 hfit) (by rw [hl2]; exact hfit) (by rw [hl2]; exact fun z => kn (by omega)) (fun hfit2 i' t1'' t3' t4' o5' b1 b2 b3 b4 => ?_)
            · rw [hl2] at g
              exact g
            · rw [hl2] at hfit2 ⊢
              have k4 := kk (by omega) i' t1'' t3' t4' o5' b1 b2 (by rw [← List.append_assoc]; exact b3) b4
              rw [show L.length + (o + a2'.length) = L.length + o + a2'.length by omega] at k4
              exact k4
          · rw [if_neg hfit]
            exact lc_over hT (by omega) (kn (by omega))
      · rw [if_neg k2] at hs'
        by_cases k4 : k = 4 ∧ dp < 4
        · rw [if_pos k4] at hs'
          obtain ⟨k4, hd4⟩ := k4
          rw [k4] at e3
          have hq := kdT4 e3.symm
          cases hsg : seg f (dp + 1) r with
          | none => rw [hsg] at hs'; cases hs'
          | some ge =>
            obtain ⟨g, ee⟩ := ge
            rw [hsg] at hs'
            cases ee with
            | nil => cases hs'
            | cons y r' =>
              obtain ⟨k', v', p'⟩ := y
              have hs2 : (if k' = 5 then sgA (rep o g) (seg f dp r') else none) = some (a, e) := hs'
              by_cases k5 : k' = 5
              · rw [if_pos k5] at hs2
                subst k5
                cases hsg2 : seg f dp r' with
                | none => rw [hsg2] at hs2; cases hs2
                | some ae =>
                  obtain ⟨a2', e2'⟩ := ae
                  rw [hsg2] at hs2
                  have hs3 : some (rep o g ++ a2', e2') = some (a, e) := hs2
                  injection hs3 with hs4
                  injection hs4 with ha he
                  subst ha
                  subst he
                  rw [List.length_append, rep_len] at kk kn
                  have hge : g.length ≤ o * g.length := Nat.le_mul_of_pos_left _ (by omega)
                  refine mj_b0 40 rfl ?_
                  refine mj_brf (nI_ge hin (by omega)) ?_
                  refine mj_b0 40 rfl ?_
                  refine mj_brf (show ¬ nI 2000 < nI L.length from nI_nlt hL (by omega)) ?_
                  refine mj_b1 40 rfl (nI_ix (show i1 < 300 by omega) (by omega)) ?_
                  rw [c1, show (t1, t2, t3, t4, nI n, fp).2.1 i1 = sb (q i1) from hb1]
                  refine mj_cS rfl rfl rfl rfl (c_isBlank hb2) ?_
                  refine mj_b0 40 rfl ?_
                  refine mj_brt (vB_0.mpr hb) ?_
                  refine mj_b0 40 rfl ?_
                  refine mj_cS rfl rfl rfl rfl (c_isFigure hb2) ?_
                  refine mj_b0 40 rfl ?_
                  refine mj_brt (vB_0.mpr hf) ?_
                  refine mj_b0 40 rfl ?_
                  refine mj_brf (fun z => z ((sb_eq hb2 (by decide)).mpr hq)) ?_
                  refine mj_b0 40 rfl ?_
                  refine mj_cV rfl rfl rfl rfl rfl rfl (c_open hd4) ?_
                  refine mj_b0 1 rfl ?_
                  rw [show nI dp + mj_kc 1 = nI (dp + 1) from nI_add dp 1]
                  refine mj_b0 3 rfl ?_
                  refine lc_adv hT hin ?_
                  rw [fg_f hf, show i1 + max 1 0 = i1 + 1 from rfl]
                  refine IH (dp + 1) r g _ hsg (by omega) (i1 + 1) L t1 (upd t3 dp (nI L.length)) (upd t4 dp (nI o)) _ e2.symm (by omega) hA hL (fun z => kn (by omega)) (fun hfit i2 t1' t3' t4' o5' b1 b2 b3 b4 => ?_)
                  refine lc_skip hT hfit (n - i2) i2 o5' (Nat.le_refl _) b2 (fun i3 o53 f1 f2 f3 => ?_)
                  rw [b1] at f2
                  obtain ⟨hin3, ⟨hf3, e13, e23⟩ | ⟨hf3, e13, e23⟩⟩ := tl_at f1 f2 f3
                  · exfalso
                    injection e13 with e33 e43
                    split at e33 <;> omega
                  · injection e13 with e33 e43
                    have hq3 := kdT5 e33.symm
                    have hb3 : ¬ isB (q i3) := f3.resolve_left (by omega)
                    obtain ⟨hb13, hb23⟩ := hT.2 i3 hin3
                    have c3 : (nI i3).toNatClampNeg = i3 := nI_clamp (by omega)
                    have h34 := b4 dp (by omega)
                    rw [pk_us, pk_us] at h34
                    obtain ⟨t1'', m1, m2⟩ := x_close (sc := sc) (F := F) (S := S) (G := G) (Y := Y) (M := M) (t2 := t2) (t3 := t3') (t4 := t4') (ln := nI n) (fp := fp) (C := C) (V := V) (A := A) (Z := Z) (d := d) hd4 ho ho2 h34.1 h34.2 b3 hfit
                    refine mj_b0 40 rfl ?_
                    refine mj_brf (nI_ge hin3 (by omega)) ?_
                    refine mj_b0 40 rfl ?_
                    refine mj_brf (show ¬ nI 2000 < nI (L.length + g.length) from nI_nlt hfit (by omega)) ?_
                    refine mj_b1 40 rfl (nI_ix (show i3 < 300 by omega) (by omega)) ?_
                    rw [c3, show (t1', t2, t3', t4', nI n, fp).2.1 i3 = sb (q i3) from hb13]
                    refine mj_cS rfl rfl rfl rfl (c_isBlank hb23) ?_
                    refine mj_b0 40 rfl ?_
                    refine mj_brt (vB_0.mpr hb3) ?_
                    refine mj_b0 40 rfl ?_
                    refine mj_cS rfl rfl rfl rfl (c_isFigure hb23) ?_
                    refine mj_b0 40 rfl ?_
                    refine mj_brt (vB_0.mpr hf3) ?_
                    refine mj_b0 40 rfl ?_
                    refine mj_brt (fun z => by have := (sb_eq (c := 40) hb23 (by decide)).mp z; omega) ?_
                    refine mj_b0 40 rfl ?_
                    refine mj_brf (fun z => z ((sb_eq hb23 (by decide)).mpr hq3)) ?_
                    refine mj_b0 1 rfl ?_
                    rw [show nI (dp + 1) + mj_kc (-1) = nI dp from by
                      show nI (dp + 1) + -(nI 1) = nI dp
                      rw [← Int32.sub_eq_add_neg, pk_sub (by omega), show dp + 1 - 1 = dp by omega]]
                    refine mj_b0 40 rfl ?_
                    refine mj_cV rfl rfl rfl rfl rfl rfl (m1) ?_
                    refine mj_b0 4 rfl ?_
                    refine lc_adv hT hin3 ?_
                    rw [fg_f hf3, show i3 + max 1 0 = i3 + 1 from rfl]
                    by_cases hfit2 : L.length + o * g.length ≤ 2000
                    · rw [if_pos hfit2]
                      have hl2 : (L ++ rep o g).length = L.length + o * g.length := by rw [List.length_append, rep_len]
                      have gg := IH dp r' a2' e2' hsg2 hdp (i3 + 1) (L ++ rep o g) t1'' t3' t4' (some (.int (sb (q i3)))) e23.symm (by omega) (m2 hfit2) (by rw [hl2]; exact hfit2) (by rw [hl2]; exact fun z => kn (by omega)) (fun hfit3 i' t1x t3x t4x o5x d1 d2 d3 d4 => ?_)
                      · rw [hl2] at gg
                        exact gg
                      · rw [hl2] at hfit3 ⊢
                        have k6 := kk (by omega) i' t1x t3x t4x o5x d1 d2 (by rw [← List.append_assoc]; exact d3) (fun x hx => by
                          have z1 := d4 x hx
                          have z2 := b4 x (by omega)
                          rw [pk_un (by omega), pk_un (by omega)] at z2
                          exact ⟨z1.1.trans z2.1, z1.2.trans z2.2⟩)
                        rw [show L.length + (o * g.length + a2'.length) = L.length + o * g.length + a2'.length by omega] at k6
                        exact k6
                    · rw [if_neg hfit2]
                      exact lc_over hT (by omega) (kn (by omega))
              · rw [if_neg k5] at hs2
                cases hs2
        · rw [if_neg k4] at hs'
          cases hs'
theorem lc_seg (hT : tpB q n t2) : ∀ f : Nat, ∀ (dp : Nat) (ts : List tkT) (a : List Nat) (e : List tkT), seg f dp ts = some (a, e) → dp ≤ 4 → ∀ (i : Nat) (L : List Nat) (t1 t3 t4 : fA) (o5 : Option Value), tl q n i = ts → i ≤ n → acH t1 L → L.length ≤ 2000 → (¬ L.length + a.length ≤ 2000 → ∀ t1 t3 t4, Q (some (.int (nI 2001))) (fbH sc F S G Y M (t1, t2, t3, t4, nI n, fp) C V A Z)) → (L.length + a.length ≤ 2000 → ∀ (i' : Nat) (t1' t3' t4' : fA) (o5' : Option Value), tl q n i' = e → i' ≤ n → acH t1' (L ++ a) → (∀ x, x < dp → t3' x = t3 x ∧ t4' x = t4 x) → mj_R (mj_C (d + 2)) 6 false (some .int) iX6_unroll (9, [some (.ref 21), some (.int (nI (L.length + a.length))), some (.int (nI dp)), some (.int (nI 1)), some (.int (nI i')), o5'], [], fbH sc F S G Y M (t1', t2, t3', t4', nI n, fp) C V A Z) Q) → mj_R (mj_C (d + 2)) 6 false (some .int) iX6_unroll (9, [some (.ref 21), some (.int (nI L.length)), some (.int (nI dp)), some (.int (nI 1)), some (.int (nI i)), o5], [], fbH sc F S G Y M (t1, t2, t3, t4, nI n, fp) C V A Z) Q := by
  have hn := hT.1
  intro f
  induction f with
  | zero => intro dp ts a e hs; cases hs
  | succ f IH =>
    intro dp ts a e hs hdp i L t1 t3 t4 o5 ht hi hA hL kn kk
    cases ts with
    | nil =>
      cases hs
      exact kk hL i t1 t3 t4 o5 ht hi (by rw [List.append_nil]; exact hA) (fun _ _ => ⟨rfl, rfl⟩)
    | cons x r =>
      obtain ⟨k, v, p⟩ := x
      have hs' : (if k = 5 then some ([], (k, v, p) :: r) else if k = 3 then (if 1 ≤ v ∧ v ≤ 20 then sg1 (seg f) dp v r else none) else sg1 (seg f) dp 1 ((k, v, p) :: r)) = some (a, e) := hs
      by_cases k5 : k = 5
      · rw [if_pos k5] at hs'
        cases hs'
        exact kk hL i t1 t3 t4 o5 ht hi (by rw [List.append_nil]; exact hA) (fun _ _ => ⟨rfl, rfl⟩)
      · rw [if_neg k5] at hs'
        by_cases k3 : k = 3
        · rw [if_pos k3] at hs'
          by_cases hv : 1 ≤ v ∧ v ≤ 20
          · rw [if_pos hv] at hs'
            refine lc_skip hT hL (n - i) i o5 (Nat.le_refl _) hi (fun i1 o51 a1 a2 a3 => ?_)
            rw [ht] at a2
            obtain ⟨hin, ⟨hf, e1, e2⟩ | ⟨hf, e1, e2⟩⟩ := tl_at a1 a2 a3
            · injection e1 with e3 e4
              injection e4 with e4 e5
              have hb : ¬ isB (q i1) := a3.resolve_left (by omega)
              obtain ⟨hb1, hb2⟩ := hT.2 i1 hin
              have c1 : (nI i1).toNatClampNeg = i1 := nI_clamp (by omega)
              have hft := fg_t hin hf
              have hfl := fg_le q (show i1 ≤ n by omega)
              refine mj_b0 40 rfl ?_
              refine mj_brf (nI_ge hin (by omega)) ?_
              refine mj_b0 40 rfl ?_
              refine mj_brf (show ¬ nI 2000 < nI L.length from nI_nlt hL (by omega)) ?_
              refine mj_b1 40 rfl (nI_ix (show i1 < 300 by omega) (by omega)) ?_
              rw [c1, show (t1, t2, t3, t4, nI n, fp).2.1 i1 = sb (q i1) from hb1]
              refine mj_cS rfl rfl rfl rfl (c_isBlank hb2) ?_
              refine mj_b0 40 rfl ?_
              refine mj_brt (vB_0.mpr hb) ?_
              refine mj_b0 40 rfl ?_
              refine mj_cS rfl rfl rfl rfl (c_isFigure hb2) ?_
              refine mj_b0 40 rfl ?_
              refine mj_brf (fun z => vB_0.mp z hf) ?_
              refine mj_b0 40 rfl ?_
              refine mj_cV rfl rfl rfl rfl rfl rfl (c_numberAt hT hin hf) ?_
              refine mj_b0 2 rfl ?_
              refine lc_adv hT hin ?_
              rw [show max 1 (fg q n i1) = fg q n i1 by omega, ← e4]
              exact lc_item hT IH hv.1 hv.2 hs' hdp e2.symm hfl hA hL kn kk
            · exfalso
              injection e1 with e3 e4
              rw [k3] at e3
              unfold kdT at e3
              split at e3
              · omega
              · split at e3
                · omega
                · split at e3 <;> omega
          · rw [if_neg hv] at hs'
            cases hs'
        · rw [if_neg k3] at hs'
          exact lc_item hT IH (by omega) (by omega) hs' hdp ht hi hA hL kn kk
/-- the acts that a tape without a fault tells -/
theorem x_unroll {f : Nat} {a : List Nat} (hT : tpB q n t2) (hs : seg f 0 (tl q n 0) = some (a, [])) : ∃ t1' t3' t4', mj_C (d + 3) nX6_unroll [.ref 21] (fbH sc F S G Y M (t1, t2, t3, t4, nI n, fp) C V A Z) (some (.int (if a.length ≤ 2000 then nI a.length else nI 2001))) (fbH sc F S G Y M (t1', t2, t3', t4', nI n, fp) C V A Z) ∧ (a.length ≤ 2000 → acH t1' a) := by
  have hn := hT.1
  have kk : ∃ r2 h2, mj_C (d + 3) nX6_unroll [.ref 21] (fbH sc F S G Y M (t1, t2, t3, t4, nI n, fp) C V A Z) r2 h2 ∧ (∃ t1' t3' t4', h2 = fbH sc F S G Y M (t1', t2, t3', t4', nI n, fp) C V A Z ∧ (r2 = some (.int (if a.length ≤ 2000 then nI a.length else nI 2001)) ∧ (a.length ≤ 2000 → acH t1' a))) := by
    refine mj_C.ex rfl rfl rfl ?_
    refine mj_b0 8 rfl ?_
    refine lc_seg hT f 0 (tl q n 0) a [] hs (by omega) 0 [] t1 t3 t4 none rfl (by omega) (fun j x hx => by cases hx) (by show 0 ≤ 2000; omega) (fun hno t1' t3' t4' => ?_) (fun hfit i' t1' t3' t4' o5' b1 b2 b3 _ => ?_)
    · have hno' : ¬ a.length ≤ 2000 := fun z => hno (by show 0 + a.length ≤ 2000; omega)
      exact ⟨t1', t3', t4', rfl, by rw [if_neg hno'], fun z => absurd z hno'⟩
    · have hfit' : a.length ≤ 2000 := by
        have h : 0 + a.length ≤ 2000 := hfit
        omega
      have b3' : acH t1' a := b3
      have hd : mj_R (mj_C (d + 2)) 6 false (some .int) iX6_unroll (9, [some (.ref 21), some (.int (nI (0 + a.length))), some (.int (nI 0)), some (.int (nI 1)), some (.int (nI i')), o5'], [], fbH sc F S G Y M (t1', t2, t3', t4', nI n, fp) C V A Z) (fun r2 h2 => ∃ t1' t3' t4', h2 = fbH sc F S G Y M (t1', t2, t3', t4', nI n, fp) C V A Z ∧ (r2 = some (.int (if a.length ≤ 2000 then nI a.length else nI 2001)) ∧ (a.length ≤ 2000 → acH t1' a))) := by
        rw [Nat.zero_add]
        refine lc_skip hT hfit' (n - i') i' o5' (Nat.le_refl _) b2 (fun i1 o51 a1 a2 a3 => ?_)
        rw [b1] at a2
        have hin : i1 = n := by
          rcases a3 with z | z
          · exact z
          · rcases Nat.lt_or_ge i1 n with y | y
            · exfalso
              by_cases hf : isF (q i1)
              · rw [tl_f y hf] at a2
                cases a2
              · rw [tl_o y z hf] at a2
                cases a2
            · omega
        subst hin
        refine mj_b0 40 rfl ?_
        refine mj_brt (nI_le (Nat.le_refl _) (by omega)) ?_
        refine mj_b0 40 rfl ?_
        exact mj_end rfl rfl trivial ⟨t1', t3', t4', rfl, by rw [if_pos hfit'], fun _ => b3'⟩
      exact hd
  obtain ⟨r2, h2, k1, t1', t3', t4', rfl, rfl, k2⟩ := kk
  exact ⟨t1', t3', t4', k1, k2⟩
end UN
