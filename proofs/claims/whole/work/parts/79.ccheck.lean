/-! promise 18: the class's check, what is repeated -/
def dpN (c dp : Nat) : Nat := if c = 40 then dp + 1 else if c = 41 then dp - 1 else dp
theorem ck_step {q : Nat → Nat} {n i dp : Nat} {cn : Bool} (hi : i < n) (hb : ¬ isB (q i)) : ck n (tl q n i) dp cn = if ftA q n i dp cn = 0 then ck n (tl q n (i + max 1 (fg q n i))) (dpN (q i) dp) (decide (48 ≤ q i ∧ q i ≤ 57)) else (ftA q n i dp cn, i) := by
  unfold ftA dpN
  by_cases h1 : 48 ≤ q i ∧ q i ≤ 57
  · have hf := fg_t (q := q) hi h1
    rw [tl_f hi h1, ck_c, if_pos h1, if_neg (show ¬ q i = 40 by omega), if_neg (show ¬ q i = 41 by omega), show max 1 (fg q n i) = fg q n i by omega, decide_eq_true h1]
    cases cn with
    | true =>
      rw [if_pos rfl, if_pos rfl, if_neg (show ¬ (1 : Nat) = 0 by omega)]
      by_cases h2 : fg q n i ≤ 2
      · rw [if_pos h2, if_pos rfl]
      · rw [if_neg h2, if_neg (by omega), if_neg (by omega), if_neg (by omega), if_neg (by omega)]
    | false =>
      rw [if_neg (show ¬ false = true by decide), if_neg (show ¬ false = true by decide)]
      by_cases h2 : fg q n i ≤ 2
      · rw [if_pos h2, if_pos rfl, if_pos h2]
        by_cases h3 : 1 ≤ nu q n i ∧ nu q n i ≤ 20
        · rw [if_pos h3, if_pos h3, if_pos rfl]
        · rw [if_neg h3, if_neg h3, if_neg (by omega)]
      · rw [if_neg h2, if_neg h2, if_neg (show ¬ (0 : Nat) = 3 by omega), if_neg (show ¬ (0 : Nat) = 4 by omega), if_neg (show ¬ (0 : Nat) = 5 by omega), if_neg (show ¬ (0 : Nat) = 2 by omega), if_neg (show ¬ (1 : Nat) = 0 by omega)]
  · rw [tl_o hi hb h1, ck_c, if_neg h1, fg_f h1, show max 1 0 = 1 from rfl, decide_eq_false h1]
    unfold kdT
    by_cases h2 : q i = 102 ∨ q i = 108 ∨ q i = 114 ∨ q i = 98
    · rw [if_pos h2, if_neg (show ¬ q i = 40 by omega), if_neg (show ¬ q i = 41 by omega), if_neg (show ¬ q i = 40 by omega), if_neg (show ¬ q i = 41 by omega), if_pos h2, if_pos rfl, if_neg (show ¬ (2 : Nat) = 3 by omega), if_neg (show ¬ (2 : Nat) = 4 by omega), if_neg (show ¬ (2 : Nat) = 5 by omega), if_pos rfl]
    · rw [if_neg h2, if_neg h2]
      by_cases h3 : q i = 40
      · rw [if_pos h3, if_pos h3, if_pos h3, if_neg (show ¬ (4 : Nat) = 3 by omega), if_pos rfl]
        by_cases h4 : dp < 4
        · rw [if_pos h4, if_pos h4, if_pos rfl]
        · rw [if_neg h4, if_neg h4, if_neg (by omega)]
      · rw [if_neg h3, if_neg h3, if_neg h3]
        by_cases h5 : q i = 41
        · rw [if_pos h5, if_pos h5, if_pos h5, if_neg (show ¬ (5 : Nat) = 3 by omega), if_neg (show ¬ (5 : Nat) = 4 by omega), if_pos rfl]
          by_cases h4 : 0 < dp ∧ cn = false
          · rw [if_pos h4, if_pos h4, if_pos rfl]
          · rw [if_neg h4, if_neg h4, if_neg (by omega)]
        · rw [if_neg h5, if_neg h5, if_neg h5, if_neg (show ¬ (0 : Nat) = 3 by omega), if_neg (show ¬ (0 : Nat) = 4 by omega), if_neg (show ¬ (0 : Nat) = 5 by omega), if_neg (show ¬ (0 : Nat) = 2 by omega), if_neg (show ¬ (1 : Nat) = 0 by omega)]
theorem dpN_le {q : Nat → Nat} {n i dp : Nat} {cn : Bool} (hdp : dp ≤ 4) (h : ftA q n i dp cn = 0) : dpN (q i) dp ≤ 4 := by
  unfold ftA at h
  unfold dpN
  by_cases h2 : q i = 40
  · rw [if_neg (show ¬ (48 ≤ q i ∧ q i ≤ 57) by omega), if_pos h2] at h
    rw [if_pos h2]
    by_cases h4 : dp < 4
    · omega
    · rw [if_neg h4] at h
      cases h
  · rw [if_neg h2]
    split <;> omega
theorem ftA_le (q : Nat → Nat) (n i dp : Nat) (cn : Bool) : ftA q n i dp cn ≤ 3 := by
  unfold ftA
  repeat' split
  all_goals omega
section TC
variable {sc : mj_E} {F : Int32 × Int32} {S : fA × fA × fA} {G : fG} {Y : fY} {M : fM} {C : fC} {V : fV} {A : fA × Int32} {Z : mj_H} {d : Nat}
variable {t1 t2 t3 t4 : fA} {q : Nat → Nat} {n : Nat}
theorem mx1 {x : Nat} (hx : x < 2 ^ 31) : (if nI 1 < nI x then nI x else nI 1) = nI (max 1 x) := by
  by_cases h : 1 < x
  · rw [if_pos (nI_lt h hx), show max 1 x = x by omega]
  · rw [if_neg (nI_nlt (by omega) (by omega)), show max 1 x = 1 by omega]
theorem x_check {fp : Int32} (hT : tpB q n t2) : mj_C (d + 5) nX6_check [.ref 21] (fbH sc F S G Y M (t1, t2, t3, t4, nI n, fp) C V A Z) (some (.int (nI (ck n (tl q n 0) 0 false).1))) (fbH sc F S G Y M (t1, t2, t3, t4, nI n, nI (ck n (tl q n 0) 0 false).2) C V A Z) := by
  have hn := hT.1
  have main : ∀ (j i dp : Nat) (cn : Bool) (o : Option Value), n - i ≤ j → i ≤ n → dp ≤ 4 → mj_R (mj_C (d + 4)) 6 false (some .int) iX6_check (6, [some (.ref 21), some (.int (nI dp)), some (.int (bI cn)), some (.int (nI i)), o], [], fbH sc F S G Y M (t1, t2, t3, t4, nI n, fp) C V A Z) (fun r2 h2 => r2 = some (.int (nI (ck n (tl q n i) dp cn).1)) ∧ h2 = fbH sc F S G Y M (t1, t2, t3, t4, nI n, nI (ck n (tl q n i) dp cn).2) C V A Z) := by
    intro j
    induction j with
    | zero =>
      intro i dp cn o hj hi hdp
      have e : i = n := by omega
      subst e
      rw [tl_n (Nat.le_refl _), ck_n]
      refine mj_b0 40 rfl ?_
      refine mj_brt (nI_le (by omega) (by omega)) ?_
      refine mj_b0 40 rfl ?_
      refine mj_hq (h' := fbH sc F S G Y M (t1, t2, t3, t4, nI i, nI i) C V A Z) rfl ?_
      by_cases h1 : 0 < dp
      · refine mj_brt (show nI 0 < nI dp from nI_lt h1 (by omega)) ?_
        refine mj_b0 40 rfl ?_
        exact mj_end rfl rfl trivial ⟨by rw [if_pos (Or.inl h1)]; rfl, rfl⟩
      · refine mj_brf (by rw [show dp = 0 by omega]; decide) ?_
        refine mj_b0 40 rfl ?_
        cases cn with
        | true =>
          refine mj_brf (show ¬ bI true = 0 by decide) ?_
          refine mj_b0 40 rfl ?_
          exact mj_end rfl rfl trivial ⟨by rw [if_pos (Or.inr rfl)]; rfl, rfl⟩
        | false =>
          refine mj_brt (show bI false = 0 by decide) ?_
          refine mj_b0 40 rfl ?_
          exact mj_end rfl rfl trivial ⟨by rw [if_neg (fun z => z.elim h1 (fun y => by cases y))]; rfl, rfl⟩
    | succ j ih =>
      intro i dp cn o hj hi hdp
      rcases Nat.lt_or_ge i n with hin | hin
      rotate_left
      · exact ih i dp cn o (by omega) hi hdp
      obtain ⟨hb1, hb2⟩ := hT.2 i hin
      have e1 : (nI i).toNatClampNeg = i := nI_clamp (by omega)
      have ii : vp_in (nI i) 300 := nI_ix (show i < 300 by omega) (by omega)
      have hfl := fg_le q (show i ≤ n by omega)
      have adv : ∀ (dp' : Nat) (cn' : Bool) (o : Option Value), dp' ≤ 4 → (ck n (tl q n i) dp cn) = ck n (tl q n (i + max 1 (fg q n i))) dp' cn' → mj_R (mj_C (d + 4)) 6 false (some .int) iX6_check (73, [some (.ref 21), some (.int (nI dp')), some (.int (bI cn')), some (.int (nI i)), o], [], fbH sc F S G Y M (t1, t2, t3, t4, nI n, fp) C V A Z) (fun r2 h2 => r2 = some (.int (nI (ck n (tl q n i) dp cn).1)) ∧ h2 = fbH sc F S G Y M (t1, t2, t3, t4, nI n, nI (ck n (tl q n i) dp cn).2) C V A Z) := by
        intro dp' cn' o hd he
        have hm : i + max 1 (fg q n i) ≤ n := by omega
        have ih := ih (i + max 1 (fg q n i)) dp' cn' o (by omega) hm hd
        rw [he]
        refine mj_b0 40 rfl ?_
        refine mj_cV rfl rfl rfl rfl rfl rfl (c_figuresFrom hT (by omega)) ?_
        refine mj_b0 1 rfl ?_
        rw [show (if mj_kc 1 < nI (fg q n i) then nI (fg q n i) else mj_kc 1) = nI (max 1 (fg q n i)) from mx1 (by omega)]
        refine mj_b0 3 rfl ?_
        rw [nI_add]
        exact ih
      refine mj_b0 40 rfl ?_
      refine mj_brf (nI_ge hin (by omega)) ?_
      refine mj_b1 40 rfl (ii) ?_
      rw [e1, show (t1, t2, t3, t4, nI n, fp).2.1 i = sb (q i) from hb1]
      refine mj_cS rfl rfl rfl rfl (c_isBlank hb2) ?_
      refine mj_b0 40 rfl ?_
      by_cases h1 : q i = 32 ∨ q i = 10
      · refine mj_brf (fun z => vB_0.mp z h1) ?_
        refine mj_b0 1 rfl ?_
        have hnf : ¬ isF (q i) := fun z => nb_f z h1
        exact adv dp cn o hdp (by rw [fg_f hnf, show max 1 0 = 1 from rfl, tl_b hin h1])
      · have hs := ck_step (dp := dp) (cn := cn) hin h1
        have hle := ftA_le q n i dp cn
        refine mj_brt (vB_0.mpr h1) ?_
        refine mj_b0 40 rfl ?_
        refine mj_cV rfl rfl rfl rfl rfl rfl (c_faultAt hT hin hdp) ?_
        refine mj_b0 40 rfl ?_
        by_cases h2 : ftA q n i dp cn = 0
        · rw [if_pos h2] at hs
          refine mj_brt (by rw [h2]; decide) ?_
          refine mj_b1 40 rfl (ii) ?_
          rw [e1, show (t1, t2, t3, t4, nI n, fp).2.1 i = sb (q i) from hb1]
          refine mj_cS rfl rfl rfl rfl (c_depthOf hb2) ?_
          have ed : nI dp + (if q i = 40 then nI 1 else if q i = 41 then -(nI 1) else nI 0) = nI (dpN (q i) dp) := by
            unfold dpN
            by_cases h3 : q i = 40
            · rw [if_pos h3, if_pos h3, nI_add]
            · rw [if_neg h3, if_neg h3]
              by_cases h4 : q i = 41
              · rw [if_pos h4, if_pos h4, ← Int32.sub_eq_add_neg, pk_sub]
                unfold ftA at h2
                rw [if_neg (show ¬ (48 ≤ q i ∧ q i ≤ 57) by omega), if_neg h3, if_pos h4] at h2
                by_cases h5 : 0 < dp ∧ cn = false
                · omega
                · rw [if_neg h5] at h2
                  cases h2
              · rw [if_neg h4, if_neg h4, nI_add, Nat.add_zero]
          refine mj_b0 2 rfl ?_
          rw [ed]
          refine mj_b1 4 rfl (ii) ?_
          rw [e1, show (t1, t2, t3, t4, nI n, fp).2.1 i = sb (q i) from hb1]
          refine mj_cS rfl rfl rfl rfl (c_isFigure hb2) ?_
          have ev : vB (48 ≤ q i ∧ q i ≤ 57) = bI (decide (48 ≤ q i ∧ q i ≤ 57)) := by
            by_cases h6 : 48 ≤ q i ∧ q i ≤ 57
            · rw [vB_t h6, decide_eq_true h6]; rfl
            · rw [vB_f h6, decide_eq_false h6]; rfl
          rw [ev]
          refine mj_b0 1 rfl ?_
          exact adv _ _ _ (dpN_le hdp h2) hs
        · rw [if_neg h2] at hs
          rw [hs]
          refine mj_brf (nI_ne0 (by omega) (by omega)) ?_
          refine mj_b0 40 rfl ?_
          exact mj_end rfl rfl trivial ⟨rfl, rfl⟩
  refine mj_C.of rfl rfl rfl ?_
  refine mj_b0 6 rfl ?_
  exact main n 0 0 false none (by omega) (by omega) (by omega)
end TC
/-- a row of the acts holds a list -/
def acH (A : fA) (L : List Nat) : Prop := ∀ j x, L[j]? = some x → A j = nI x ∧ x < 128
theorem rep_app (g : List Nat) : ∀ o, rep (o + 1) g = rep o g ++ g
  | 0 => by
    show g ++ [] = [] ++ g
    rw [List.append_nil, List.nil_append]
  | o + 1 => by
    show g ++ rep (o + 1) g = g ++ rep o g ++ g
    rw [rep_app g o, List.append_assoc]
theorem rep_per {g : List Nat} {o m : Nat} (h1 : g.length ≤ m) (h2 : m < o * g.length) : (rep o g)[m]? = (rep o g)[m - g.length]? := by
  cases o with
  | zero => omega
  | succ o =>
    have e1 : (rep (o + 1) g)[m]? = (rep o g)[m - g.length]? := by
      show (g ++ rep o g)[m]? = _
      rw [List.getElem?_append_right h1]
    have e2 : (rep (o + 1) g)[m - g.length]? = (rep o g)[m - g.length]? := by
      rw [rep_app, List.getElem?_append_left]
      rw [rep_len]
      rw [Nat.succ_mul] at h2
      omega
    rw [e1, e2]
theorem len_some {L : List Nat} {j : Nat} (h : j < L.length) : ∃ x, L[j]? = some x := ⟨L[j], List.getElem?_eq_getElem h⟩
section TD
variable {sc : mj_E} {F : Int32 × Int32} {S : fA × fA × fA} {G : fG} {Y : fY} {M : fM} {C : fC} {V : fV} {A : fA × Int32} {Z : mj_H} {d : Nat}
variable {t1 t2 t3 t4 : fA} {fp ln : Int32}
/-- what was put behind P is there o times -/
theorem x_repeat {P g : List Nat} {o : Nat} (ho : 1 ≤ o) (ho2 : o ≤ 20) (hA : acH t1 (P ++ g)) (hc : P.length + g.length ≤ 2000) : ∃ t1', mj_C (d + 1) nX6_repeat [.ref 21, .int (nI P.length), .int (nI (P.length + g.length)), .int (nI o)] (fbH sc F S G Y M (t1, t2, t3, t4, ln, fp) C V A Z) (some (.int (if P.length + o * g.length ≤ 2000 then nI (P.length + o * g.length) else nI 2001))) (fbH sc F S G Y M (t1', t2, t3, t4, ln, fp) C V A Z) ∧ (P.length + o * g.length ≤ 2000 → acH t1' (P ++ rep o g)) := by
  have hlen : o * g.length ≤ 20 * 2000 := Nat.mul_le_mul ho2 (by omega)
  have hge : g.length ≤ o * g.length := Nat.le_mul_of_pos_left _ (by omega)
  have kk : ∃ r2 h2, mj_C (d + 1) nX6_repeat [.ref 21, .int (nI P.length), .int (nI (P.length + g.length)), .int (nI o)] (fbH sc F S G Y M (t1, t2, t3, t4, ln, fp) C V A Z) r2 h2 ∧ (r2 = some (.int (if P.length + o * g.length ≤ 2000 then nI (P.length + o * g.length) else nI 2001)) ∧ ∃ t1', h2 = fbH sc F S G Y M (t1', t2, t3, t4, ln, fp) C V A Z ∧ (P.length + o * g.length ≤ 2000 → acH t1' (P ++ rep o g))) := by
    refine mj_C.ex rfl rfl rfl ?_
    refine mj_b0 3 rfl ?_
    rw [pk_sub (show P.length ≤ P.length + g.length by omega), show P.length + g.length - P.length = g.length by omega]
    refine mj_b0 6 rfl ?_
    rw [pk_mul, nI_add, Nat.mul_comm]
    refine mj_b0 40 rfl ?_
    by_cases h1 : P.length + o * g.length ≤ 2000
    · rw [if_pos h1]
      refine mj_brt (show nI (P.length + o * g.length) ≤ nI 2000 from nI_le h1 (by omega)) ?_
      refine mj_b0 2 rfl ?_
      obtain ⟨N, hN⟩ : ∃ N, N + (P.length + g.length) = P.length + o * g.length := ⟨o * g.length - g.length, by omega⟩
      refine mj_itI (fun k (A : fA) => ∀ j x, j < P.length + g.length + k → (P ++ rep o g)[j]? = some x → A j = nI x ∧ x < 128) (fun k (A1 : fA) => (28, [some (.ref 21), some (.int (nI P.length)), some (.int (nI (P.length + g.length))), some (.int (nI o)), some (.int (nI g.length)), some (.int (nI (P.length + o * g.length))), some (.int (nI (P.length + g.length + k)))], [], fbH sc F S G Y M (A1, t2, t3, t4, ln, fp) C V A Z)) N (fun k A1 hk hI ih => ?_) (fun A1 hI => ?_) t1 (fun j x hj hx => ?_)
      · have hg : g.length ≤ P.length + g.length + k := by omega
        have e1 : (nI (P.length + g.length + k)).toNatClampNeg = P.length + g.length + k := nI_clamp (by omega)
        have e2 : nI (P.length + g.length + k) - nI g.length = nI (P.length + k) := by rw [pk_sub hg, show P.length + g.length + k - g.length = P.length + k by omega]
        have e3 : (nI (P.length + k)).toNatClampNeg = P.length + k := nI_clamp (by omega)
        have hper : (P ++ rep o g)[P.length + g.length + k]? = (P ++ rep o g)[P.length + k]? := by
          rw [List.getElem?_append_right (by omega), List.getElem?_append_right (by omega), show P.length + g.length + k - P.length = g.length + k by omega, show P.length + k - P.length = k by omega, rep_per (by omega) (by omega), show g.length + k - g.length = k by omega]
        obtain ⟨x, hx⟩ : ∃ x, (P ++ rep o g)[P.length + k]? = some x := len_some (by rw [List.length_append, rep_len]; omega)
        have hgpos : 0 < g.length := by
          rcases Nat.eq_zero_or_pos g.length with z | z
          · rw [z, Nat.mul_zero] at hN
            omega
          · exact z
        have hv := hI (P.length + k) x (by omega) hx
        have ih := ih (upd A1 (P.length + g.length + k) (nI x)) (fun j y hj hy => by
          by_cases e : j = P.length + g.length + k
          · rw [e, hper, hx] at hy
            cases hy
            rw [e, pk_us]
            exact ⟨rfl, hv.2⟩
          · rw [pk_un e]
            exact hI j y (by omega) hy)
        rw [← Nat.add_assoc, ← nI_add (P.length + g.length + k) 1] at ih
        refine mj_b0 40 rfl ?_
        refine mj_brf (nI_ge (by omega) (by omega)) ?_
        refine mj_b1 10 rfl (by
          show vp_in (nI (P.length + g.length + k) - nI g.length) 2000 ∧ vp_in (nI (P.length + g.length + k)) 2000
          rw [e2]
          exact ⟨nI_ix (by omega) (by omega), nI_ix (by omega) (by omega)⟩) ?_
        refine mj_hq (h' := fbH sc F S G Y M (upd A1 (P.length + g.length + k) (nI x), t2, t3, t4, ln, fp) C V A Z) (Eq.trans (b := fbH sc F S G Y M (upd A1 (nI (P.length + g.length + k)).toNatClampNeg (A1 (nI (P.length + g.length + k) - nI g.length).toNatClampNeg).toInt8.toInt32, t2, t3, t4, ln, fp) C V A Z) rfl (by
          rw [e2, e1, e3, hv.1, show (nI x).toInt8.toInt32 = nI x from (sb_eq (by omega) hv.2).mpr rfl])) ?_
        refine mj_b0 2 rfl ?_
        exact ih
      · refine mj_b0 40 rfl ?_
        refine mj_brt (nI_le (by omega) (by omega)) ?_
        refine mj_b0 40 rfl ?_
        exact mj_end rfl rfl trivial ⟨rfl, A1, rfl, fun _ j x hx => hI j x (by
          have hlt : j < (P ++ rep o g).length := by
            rcases Nat.lt_or_ge j (P ++ rep o g).length with z | z
            · exact z
            · rw [List.getElem?_eq_none z] at hx
              cases hx
          rw [List.length_append, rep_len] at hlt
          omega) hx⟩
      · obtain ⟨o', rfl⟩ : ∃ o', o = o' + 1 := ⟨o - 1, by omega⟩
        have hj' : j < (P ++ g).length := by rw [List.length_append]; omega
        refine hA j x ?_
        rw [← hx]
        show (P ++ g)[j]? = (P ++ (g ++ rep o' g))[j]?
        rw [← List.append_assoc, List.getElem?_append_left hj']
    · rw [if_neg h1]
      refine mj_brf (show ¬ nI (P.length + o * g.length) ≤ nI 2000 from nI_ge (by omega) (by omega)) ?_
      refine mj_b0 40 rfl ?_
      exact mj_end rfl rfl trivial ⟨rfl, t1, rfl, fun z => absurd z h1⟩
  obtain ⟨r2, h2, k1, rfl, t1', rfl, k2⟩ := kk
  exact ⟨t1', k1, k2⟩
theorem x_tadd {L : List Nat} {l o : Nat} (ho : 1 ≤ o) (ho2 : o ≤ 20) (hl : l < 128) (hA : acH t1 L) (hc : L.length ≤ 2000) : ∃ t1', mj_C (d + 2) nX6_add [.ref 21, .int (sb l), .int (nI L.length), .int (nI o)] (fbH sc F S G Y M (t1, t2, t3, t4, ln, fp) C V A Z) (some (.int (if L.length + o ≤ 2000 then nI (L.length + o) else nI 2001))) (fbH sc F S G Y M (t1', t2, t3, t4, ln, fp) C V A Z) ∧ (L.length + o ≤ 2000 → acH t1' (L ++ rep o [l])) := by
  by_cases h1 : L.length < 2000
  · have e1 : (nI L.length).toNatClampNeg = L.length := nI_clamp (by omega)
    have hA2 : acH (upd t1 L.length (nI l)) (L ++ [l]) := by
      intro j x hx
      by_cases e : j = L.length
      · rw [e, List.getElem?_append_right (Nat.le_refl _), Nat.sub_self] at hx
        cases hx
        rw [e, pk_us]
        exact ⟨rfl, hl⟩
      · have hj : j < L.length := by
          rcases Nat.lt_or_ge j L.length with z | z
          · exact z
          · rw [List.getElem?_append_right z, List.getElem?_eq_none (by simp only [List.length_cons, List.length_nil]; omega)] at hx
            cases hx
        rw [List.getElem?_append_left hj] at hx
        rw [pk_un e]
        exact hA j x hx
    obtain ⟨t1', k1, k2⟩ := x_repeat (sc := sc) (F := F) (S := S) (G := G) (Y := Y) (M := M) (t2 := t2) (t3 := t3) (t4 := t4) (ln := ln) (fp := fp) (C := C) (V := V) (A := A) (Z := Z) (d := d) ho ho2 hA2 (by simp only [List.length_cons, List.length_nil]; omega)
    simp only [List.length_cons, List.length_nil, Nat.zero_add, Nat.mul_one] at k1 k2
    refine ⟨t1', ?_, k2⟩
    refine mj_C.of rfl rfl rfl ?_
    refine mj_b0 40 rfl ?_
    refine mj_brt (show nI L.length < nI 2000 from nI_lt h1 (by omega)) ?_
    refine mj_b1 5 rfl (nI_ix h1 (by omega)) ?_
    refine mj_hq (h' := fbH sc F S G Y M (upd t1 L.length (nI l), t2, t3, t4, ln, fp) C V A Z) (Eq.trans (b := fbH sc F S G Y M (upd t1 (nI L.length).toNatClampNeg (sb l).toInt8.toInt32, t2, t3, t4, ln, fp) C V A Z) rfl (by
      rw [e1, show (sb l).toInt8.toInt32 = nI l by rw [show sb l = nI l from (sb_eq (by omega) hl).mpr rfl]; exact (sb_eq (by omega) hl).mpr rfl])) ?_
    refine mj_b0 40 rfl ?_
    rw [show nI L.length + mj_kc 1 = nI (L.length + 1) from nI_add _ 1]
    refine mj_cV rfl rfl rfl rfl rfl rfl (k1) ?_
    exact mj_end rfl rfl trivial ⟨rfl, rfl⟩
  · refine ⟨t1, ?_, fun z => absurd z (by omega)⟩
    refine mj_C.of rfl rfl rfl ?_
    refine mj_b0 40 rfl ?_
    refine mj_brf (show ¬ nI L.length < nI 2000 from nI_nlt (by omega) (by omega)) ?_
    refine mj_b0 40 rfl ?_
    exact mj_end rfl rfl trivial ⟨by rw [if_neg (show ¬ L.length + o ≤ 2000 by omega)]; rfl, rfl⟩
theorem c_open {dp c o : Nat} (hdp : dp < 4) : mj_C (d + 1) nX6_open [.ref 21, .int (nI dp), .int (nI c), .int (nI o)] (fbH sc F S G Y M (t1, t2, t3, t4, ln, fp) C V A Z) none (fbH sc F S G Y M (t1, t2, upd t3 dp (nI c), upd t4 dp (nI o), ln, fp) C V A Z) := by
  have e1 : (nI dp).toNatClampNeg = dp := nI_clamp (by omega)
  have ii : vp_in (nI dp) 4 := nI_ix hdp (by omega)
  refine mj_C.of rfl rfl rfl ?_
  refine mj_b0 40 rfl ?_
  refine mj_brf (nI_pos (by omega)) ?_
  refine mj_b0 40 rfl ?_
  refine mj_brf (show ¬ nI 4 ≤ nI dp from nI_ge hdp (by omega)) ?_
  refine mj_b1 40 rfl (⟨ii, ii⟩) ?_
  refine mj_end rfl rfl trivial ⟨rfl, ?_⟩
  exact Eq.trans (b := fbH sc F S G Y M (t1, t2, upd t3 (nI dp).toNatClampNeg (nI c), upd t4 (nI dp).toNatClampNeg (nI o), ln, fp) C V A Z) rfl (by rw [e1])
theorem x_close {P g : List Nat} {dp o : Nat} (hdp : dp < 4) (ho : 1 ≤ o) (ho2 : o ≤ 20) (h3 : t3 dp = nI P.length) (h4 : t4 dp = nI o) (hA : acH t1 (P ++ g)) (hc : P.length + g.length ≤ 2000) : ∃ t1', mj_C (d + 2) nX6_close [.ref 21, .int (nI dp), .int (nI (P.length + g.length))] (fbH sc F S G Y M (t1, t2, t3, t4, ln, fp) C V A Z) (some (.int (if P.length + o * g.length ≤ 2000 then nI (P.length + o * g.length) else nI 2001))) (fbH sc F S G Y M (t1', t2, t3, t4, ln, fp) C V A Z) ∧ (P.length + o * g.length ≤ 2000 → acH t1' (P ++ rep o g)) := by
  have e1 : (nI dp).toNatClampNeg = dp := nI_clamp (by omega)
  have ii : vp_in (nI dp) 4 := nI_ix hdp (by omega)
  obtain ⟨t1', k1, k2⟩ := x_repeat (sc := sc) (F := F) (S := S) (G := G) (Y := Y) (M := M) (t2 := t2) (t3 := t3) (t4 := t4) (ln := ln) (fp := fp) (C := C) (V := V) (A := A) (Z := Z) (d := d) ho ho2 hA hc
  refine ⟨t1', ?_, k2⟩
  refine mj_C.of rfl rfl rfl ?_
  refine mj_b0 40 rfl ?_
  refine mj_brf (nI_pos (by omega)) ?_
  refine mj_b0 40 rfl ?_
  refine mj_brt (show nI dp < nI 4 from nI_lt hdp (by omega)) ?_
  refine mj_b1 40 rfl (⟨ii, ii⟩) ?_
  rw [e1, show (t1, t2, t3, t4, ln, fp).2.2.1 dp = nI P.length from h3, show (t1, t2, t3, t4, ln, fp).2.2.2.1 dp = nI o from h4]
  refine mj_cV rfl rfl rfl rfl rfl rfl (k1) ?_
  exact mj_end rfl rfl trivial ⟨rfl, rfl⟩
end TD
