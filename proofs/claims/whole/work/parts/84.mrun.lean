/-! promise 18: the model runs what the tape tells -/
theorem mk_item {f dp o : Nat} {ts : List tkT} {a : List Nat} {e : List tkT} (hs : sg1 (seg f) dp o ts = some (a, e)) (IH : ∀ (dp : Nat) (ts : List tkT) (a : List Nat) (e : List tkT), seg f dp ts = some (a, e) → ∀ ms ls, ∃ ms' ls', mkF ts dp ms ls 1 = mkF e dp ms' ls' 1 ∧ ms' dp = ms dp + a.length ∧ (∀ x, x < dp → ms' x = ms x) ∧ ∀ x, x ≤ dp → ls' x = ls x) (ms ls : Nat → Nat) : ∃ ms' ls', mkF ts dp ms ls o = mkF e dp ms' ls' 1 ∧ ms' dp = ms dp + a.length ∧ (∀ x, x < dp → ms' x = ms x) ∧ ∀ x, x ≤ dp → ls' x = ls x := by
  cases ts with
  | nil => cases hs
  | cons y r =>
    obtain ⟨k, x, p⟩ := y
    have hs' : (if k = 2 then sgA (rep o [x]) (seg f dp r) else if k = 4 ∧ dp < 4 then sgG o (seg f dp) (seg f (dp + 1) r) else none) = some (a, e) := hs
    rw [mkF_c]
    by_cases k2 : k = 2
    · rw [if_pos k2] at hs'
      rw [if_neg (by omega), if_neg (by omega), if_neg (by omega), if_pos k2]
      cases hsg : seg f dp r with
      | none => rw [hsg] at hs'; cases hs'
      | some ae =>
        obtain ⟨a2, e2⟩ := ae
        rw [hsg] at hs'
        have hs2 : some (rep o [x] ++ a2, e2) = some (a, e) := hs'
        injection hs2 with hs3
        injection hs3 with ha he
        subst ha
        subst he
        obtain ⟨ms', ls', g1, g2, g3, g4⟩ := IH dp r a2 e2 hsg (uN ms dp (ms dp + o)) ls
        refine ⟨ms', ls', g1, ?_, fun y hy => ?_, g4⟩
        · rw [g2, uN_s, List.length_append, rep_len]
          simp only [List.length_cons, List.length_nil, Nat.zero_add, Nat.mul_one]
          omega
        · rw [g3 y hy, uN_n (by omega)]
    · rw [if_neg k2] at hs'
      by_cases k4 : k = 4 ∧ dp < 4
      · rw [if_pos k4] at hs'
        rw [if_neg (by omega), if_pos k4.1]
        cases hsg : seg f (dp + 1) r with
        | none => rw [hsg] at hs'; cases hs'
        | some ge =>
          obtain ⟨g, ee⟩ := ge
          rw [hsg] at hs'
          cases ee with
          | nil => cases hs'
          | cons y2 r' =>
            obtain ⟨k', v', p'⟩ := y2
            have hs2 : (if k' = 5 then sgA (rep o g) (seg f dp r') else none) = some (a, e) := hs'
            by_cases k5 : k' = 5
            · rw [if_pos k5] at hs2
              subst k5
              cases hsg2 : seg f dp r' with
              | none => rw [hsg2] at hs2; cases hs2
              | some ae =>
                obtain ⟨a2, e2⟩ := ae
                rw [hsg2] at hs2
                have hs3 : some (rep o g ++ a2, e2) = some (a, e) := hs2
                injection hs3 with hs4
                injection hs4 with ha he
                subst ha
                subst he
                obtain ⟨ms1, ls1, g1, g2, g3, g4⟩ := IH (dp + 1) r g _ hsg (uN ms (dp + 1) 0) (uN ls (dp + 1) o)
                rw [g1, mkF_c, if_neg (by omega), if_neg (by omega), if_pos rfl, show dp + 1 - 1 = dp by omega]
                obtain ⟨ms2, ls2, m1, m2, m3, m4⟩ := IH dp r' a2 e2 hsg2 (uN ms1 dp (ms1 dp + ms1 (dp + 1) * ls1 (dp + 1))) ls1
                refine ⟨ms2, ls2, m1, ?_, fun y hy => ?_, fun y hy => ?_⟩
                · rw [m2, uN_s, g2, uN_s, g4 (dp + 1) (Nat.le_refl _), uN_s, g3 dp (by omega), uN_n (by omega), List.length_append, rep_len, Nat.zero_add, Nat.mul_comm g.length o]
                  omega
                · rw [m3 y hy, uN_n (by omega), g3 y (by omega), uN_n (by omega)]
                · rw [m4 y hy, g4 y (by omega), uN_n (by omega)]
            · rw [if_neg k5] at hs2
              cases hs2
      · rw [if_neg k4] at hs'
        cases hs'
theorem mk_seg : ∀ (f dp : Nat) (ts : List tkT) (a : List Nat) (e : List tkT), seg f dp ts = some (a, e) → ∀ ms ls, ∃ ms' ls', mkF ts dp ms ls 1 = mkF e dp ms' ls' 1 ∧ ms' dp = ms dp + a.length ∧ (∀ x, x < dp → ms' x = ms x) ∧ ∀ x, x ≤ dp → ls' x = ls x
  | 0, dp, ts, a, e, h => by cases h
  | f + 1, dp, ts, a, e, h => by
    intro ms ls
    have IH := fun dp ts a e => mk_seg f dp ts a e
    cases ts with
    | nil =>
      cases h
      exact ⟨ms, ls, rfl, rfl, fun _ _ => rfl, fun _ _ => rfl⟩
    | cons y r =>
      obtain ⟨k, x, p⟩ := y
      have hs' : (if k = 5 then some ([], (k, x, p) :: r) else if k = 3 then (if 1 ≤ x ∧ x ≤ 20 then sg1 (seg f) dp x r else none) else sg1 (seg f) dp 1 ((k, x, p) :: r)) = some (a, e) := h
      by_cases k5 : k = 5
      · rw [if_pos k5] at hs'
        cases hs'
        exact ⟨ms, ls, rfl, rfl, fun _ _ => rfl, fun _ _ => rfl⟩
      · rw [if_neg k5] at hs'
        by_cases k3 : k = 3
        · rw [if_pos k3] at hs'
          by_cases hv : 1 ≤ x ∧ x ≤ 20
          · rw [if_pos hv] at hs'
            rw [mkF_c, if_pos k3]
            exact mk_item hs' IH ms ls
          · rw [if_neg hv] at hs'
            cases hs'
        · rw [if_neg k3] at hs'
          exact mk_item hs' IH ms ls
section RA
variable {P : fP} {U : fU} {s : fA × fA × fA} {g : fG} {w : fW} {c : fA × fA × fA} {v : fA × fA} {a : fA × Int32} {d b : Nat}
variable {tp : fA} {mk : fL} {ta la : Int32} {q : Nat → Nat} {n : Nat} {Q : Option Value → mj_H → Prop}
theorem amL_MS (hb : b < 22) : ∀ (L : List Nat) (m : fM), MS b m → MS b (amL b L m)
  | [], m, h => h
  | l :: L, m, h => amL_MS hb L _ (am_MS hb h)
/-- the next sign -/
theorem lr_next {m : fM} {be le : fA} {to fr nx : Int32} {dp c' : Nat} {r : List tkT} {o2 o3 : Option Value} (hT : tpM q n tp) (hc : c' ≤ n) (htl : tl q n c' = r) (kk : ∀ (cu to fr nx : Int32), LdR q n r cu to fr nx → mj_R (mj_C (d + 3)) 9 false none iX9_runAll (11, [some (.ref 35), some (.int (nI dp)), o2, o3], [], fbP P (mdZ U s g w (m) ((tp, be, le, mk), ta, la, nI n, cu, to, fr, nx) c v a)) Q) : mj_R (mj_C (d + 3)) 9 false none iX9_runAll (145, [some (.ref 35), some (.int (nI dp)), o2, o3], [], fbP P (mdZ U s g w (m) ((tp, be, le, mk), ta, la, nI n, nI c', to, fr, nx) c v a)) Q := by
  obtain ⟨cu2, to2, fr2, nu2, g1, g2⟩ := m_step (P := P) (U := U) (s := s) (g := g) (w := w) (m := m) (c := c) (v := v) (a := a) (d := d + 1) (be := be) (le := le) (mk := mk) (ta := ta) (la := la) (to := to) (fr := fr) (nu := nx) hT hc
  rw [htl] at g1
  refine mj_b0 40 rfl ?_
  refine mj_cV rfl rfl rfl rfl rfl rfl (g2) ?_
  refine mj_b0 1 rfl ?_
  exact kk _ _ _ _ g1
/-- at a sign that is no number and not the end -/
theorem lr_at {m : fM} {be le : fA} {cu to fr nx : Int32} {dp : Nat} {o2 o3 : Option Value} (h1 : ¬ to = nI 1) (h3 : ¬ to = nI 3) (kk : mj_R (mj_C (d + 3)) 9 false none iX9_runAll (38, [some (.ref 35), some (.int (nI dp)), some (.int (nI 1)), o3], [], fbP P (mdZ U s g w (m) ((tp, be, le, mk), ta, la, nI n, cu, to, fr, nx) c v a)) Q) : mj_R (mj_C (d + 3)) 9 false none iX9_runAll (11, [some (.ref 35), some (.int (nI dp)), o2, o3], [], fbP P (mdZ U s g w (m) ((tp, be, le, mk), ta, la, nI n, cu, to, fr, nx) c v a)) Q := by
  refine mj_b0 40 rfl ?_
  refine mj_brf (h1) ?_
  refine mj_b0 40 rfl ?_
  refine mj_brt (h3) ?_
  exact kk
set_option maxRecDepth 20000 in
theorem lr_item {f : Nat} (hb : b < 22) (h : Bd b g) (hT : tpM q n tp) (IH : ∀ (dp : Nat) (ts : List tkT) (x : List Nat) (e : List tkT), seg f dp ts = some (x, e) → dp ≤ 4 → ∀ (m : fM) (be le : fA) (cu to fr nx : Int32) (o2 o3 : Option Value), MS b m → LdR q n ts cu to fr nx → (∀ (be' le' : fA) (cu' to' fr' nx' : Int32) (o2' o3' : Option Value), LdR q n e cu' to' fr' nx' → (∀ x, x ≤ dp → be' x = be x ∧ le' x = le x) → mj_R (mj_C (d + 3)) 9 false none iX9_runAll (11, [some (.ref 35), some (.int (nI dp)), o2', o3'], [], fbP P (mdZ U s g w (amL b x m) ((tp, be', le', mk), ta, la, nI n, cu', to', fr', nx') c v a)) Q) → mj_R (mj_C (d + 3)) 9 false none iX9_runAll (11, [some (.ref 35), some (.int (nI dp)), o2, o3], [], fbP P (mdZ U s g w (m) ((tp, be, le, mk), ta, la, nI n, cu, to, fr, nx) c v a)) Q) {dp o : Nat} {ts : List tkT} {x : List Nat} {e : List tkT} (ho : 1 ≤ o) (ho2 : o ≤ 20) (hs : sg1 (seg f) dp o ts = some (x, e)) (hdp : dp ≤ 4) {m : fM} {be le : fA} {cu to fr nx : Int32} {o3 : Option Value} (hM : MS b m) (hL : LdR q n ts cu to fr nx) (kk : (∀ (be' le' : fA) (cu' to' fr' nx' : Int32) (o2' o3' : Option Value), LdR q n e cu' to' fr' nx' → (∀ x, x ≤ dp → be' x = be x ∧ le' x = le x) → mj_R (mj_C (d + 3)) 9 false none iX9_runAll (11, [some (.ref 35), some (.int (nI dp)), o2', o3'], [], fbP P (mdZ U s g w (amL b x m) ((tp, be', le', mk), ta, la, nI n, cu', to', fr', nx') c v a)) Q)) : mj_R (mj_C (d + 3)) 9 false none iX9_runAll (38, [some (.ref 35), some (.int (nI dp)), some (.int (nI o)), o3], [], fbP P (mdZ U s g w (m) ((tp, be, le, mk), ta, la, nI n, cu, to, fr, nx) c v a)) Q := by
  have hn := hT.1
  cases ts with
  | nil => cases hs
  | cons y r =>
    obtain ⟨k, l, p⟩ := y
    obtain ⟨c', hc, htl, rfl, hp, rfl, l3, l0, l2, l4, l5, lk⟩ := hL
    have hs' : (if k = 2 then sgA (rep o [l]) (seg f dp r) else if k = 4 ∧ dp < 4 then sgG o (seg f dp) (seg f (dp + 1) r) else none) = some (x, e) := hs
    by_cases k2 : k = 2
    · rw [if_pos k2] at hs'
      obtain ⟨rfl, hq, hlet⟩ := l2 k2
      cases hsg : seg f dp r with
      | none => rw [hsg] at hs'; cases hs'
      | some ae =>
        obtain ⟨a2, e2⟩ := ae
        rw [hsg] at hs'
        have hs2 : some (rep o [l] ++ a2, e2) = some (x, e) := hs'
        injection hs2 with hs3
        injection hs3 with ha he
        subst ha
        subst he
        rw [amL_app] at kk
        have hbt : (if p < n then nI (q p) else NO) = nI l := by rw [if_pos hp, hq]
        refine mj_b0 40 rfl ?_
        refine mj_brf (show ¬ ¬ nI 2 = nI 2 by decide) ?_
        refine mj_b0 2 rfl ?_
        refine mj_iter (fun k => (48, [some (.ref 35), some (.int (nI dp)), some (.int (nI o)), some (.int (nI k))], [], fbP P (mdZ U s g w (amL b (rep k [l]) m) ((tp, be, le, mk), ta, la, nI n, nI c', nI 2, nI p, nx) c v a))) o (fun k hk ih => ?_) ?_
        · rw [← nI_add k 1, rep_app, amL_app] at ih
          refine mj_b0 40 rfl ?_
          refine mj_brf (nI_ge hk (by omega)) ?_
          refine mj_b0 40 rfl ?_
          refine mj_cV rfl rfl rfl rfl rfl rfl (m_byteAt hT (show p < 2 ^ 30 by omega)) ?_
          rw [hbt]
          refine mj_cV rfl rfl rfl rfl rfl rfl (m_act hb h (amL_MS hb _ _ hM) hlet) ?_
          refine mj_b0 2 rfl ?_
          exact ih
        · refine mj_b0 40 rfl ?_
          refine mj_brt (nI_le (by omega) (by omega)) ?_
          refine mj_b0 1 rfl ?_
          refine lr_next hT hc htl (fun cu to fr nx hL2 => ?_)
          exact IH dp r a2 e2 hsg hdp _ be le cu to fr nx _ _ (amL_MS hb _ _ hM) hL2 kk
    · rw [if_neg k2] at hs'
      by_cases k4 : k = 4 ∧ dp < 4
      · rw [if_pos k4] at hs'
        obtain ⟨k4, hd4⟩ := k4
        obtain ⟨rfl, hq⟩ := l4 k4
        cases hsg : seg f (dp + 1) r with
        | none => rw [hsg] at hs'; cases hs'
        | some ge =>
          obtain ⟨gr, ee⟩ := ge
          rw [hsg] at hs'
          cases ee with
          | nil => cases hs'
          | cons y2 r' =>
            obtain ⟨k', v', p'⟩ := y2
            have hs2 : (if k' = 5 then sgA (rep o gr) (seg f dp r') else none) = some (x, e) := hs'
            by_cases k5 : k' = 5
            · rw [if_pos k5] at hs2
              subst k5
              cases hsg2 : seg f dp r' with
              | none => rw [hsg2] at hs2; cases hs2
              | some ae =>
                obtain ⟨a2, e2⟩ := ae
                rw [hsg2] at hs2
                have hs3 : some (rep o gr ++ a2, e2) = some (x, e) := hs2
                injection hs3 with hs4
                injection hs4 with ha he
                subst ha
                subst he
                rw [amL_app] at kk
                have hbt : (if p < n then nI (q p) else NO) = nI 40 := by rw [if_pos hp, hq]
                have e1 : (nI (dp + 1)).toNatClampNeg = dp + 1 := nI_clamp (by omega)
                have ii : vp_in (nI (dp + 1)) 5 := nI_ix (by omega) (by omega)
                -- the body, as often as is left
                have body : ∀ (j : Nat) (m1 : fM) (be1 le1 : fA) (cu to fr nx : Int32) (o2 o3 : Option Value), j < 20 → MS b m1 → LdR q n r cu to fr nx → be1 (dp + 1) = nI c' → le1 (dp + 1) = nI (j + 1) → (∀ x, x ≤ dp → be1 x = be x ∧ le1 x = le x) → amL b (rep (j + 1) gr) m1 = amL b (rep o gr) m → mj_R (mj_C (d + 3)) 9 false none iX9_runAll (11, [some (.ref 35), some (.int (nI (dp + 1))), o2, o3], [], fbP P (mdZ U s g w (m1) ((tp, be1, le1, mk), ta, la, nI n, cu, to, fr, nx) c v a)) Q := by
                  intro j
                  induction j with
                  | zero =>
                    intro m1 be1 le1 cu to fr nx o2 o3 hj hM1 hL1 hbe hle hag hfin
                    refine IH (dp + 1) r gr _ hsg (by omega) m1 be1 le1 cu to fr nx o2 o3 hM1 hL1 (fun be2 le2 cu2 to2 fr2 nx2 o22 o32 hL2 hag2 => ?_)
                    obtain ⟨c2, hc2, htl2, rfl, hp2, rfl, -, -, -, -, l52, -⟩ := hL2
                    obtain ⟨rfl, hq2⟩ := l52 rfl
                    have hbt2 : (if p' < n then nI (q p') else NO) = nI 41 := by rw [if_pos hp2, hq2]
                    have hle2 : le2 (dp + 1) = nI 1 := by rw [(hag2 (dp + 1) (Nat.le_refl _)).2, hle]
                    refine lr_at (by decide) (by decide) ?_
                    refine mj_b0 40 rfl ?_
                    refine mj_brt (show ¬ nI 4 = nI 2 by decide) ?_
                    refine mj_b0 40 rfl ?_
                    refine mj_cV rfl rfl rfl rfl rfl rfl (m_byteAt hT (show p' < 2 ^ 30 by omega)) ?_
                    rw [hbt2]
                    refine mj_b0 40 rfl ?_
                    refine mj_brt (show ¬ nI 41 = nI 40 by decide) ?_
                    refine mj_b1 8 rfl (⟨ii, ii⟩) ?_
                    refine mj_hq (h' := fbP P (mdZ U s g w (amL b gr m1) ((tp, be2, upd le2 (dp + 1) (nI 0), mk), ta, la, nI n, nI c2, nI 4, nI p', nx2) c v a)) (Eq.trans (b := fbP P (mdZ U s g w (amL b gr m1) ((tp, be2, upd le2 (nI (dp + 1)).toNatClampNeg (le2 (nI (dp + 1)).toNatClampNeg - nI 1), mk), ta, la, nI n, nI c2, nI 4, nI p', nx2) c v a)) rfl (by rw [e1, hle2]; rfl)) ?_
                    refine mj_b1 40 rfl (ii) ?_
                    rw [e1]
                    refine mj_brt (by rw [show ((tp, be2, upd le2 (dp + 1) (nI 0), mk), ta, la, nI n, nI c2, nI 4, nI p', nx2).1.2.2.1 (dp + 1) = nI 0 from pk_us]; decide) ?_
                    refine mj_b0 1 rfl ?_
                    rw [show nI (dp + 1) + mj_kc (-1) = nI dp from by
                      show nI (dp + 1) + -(nI 1) = nI dp
                      rw [← Int32.sub_eq_add_neg, pk_sub (by omega), show dp + 1 - 1 = dp by omega]]
                    refine lr_next hT hc2 htl2 (fun cu to fr nx hL3 => ?_)
                    have hfin' : amL b gr m1 = amL b (rep o gr) m := by
                      rw [← hfin]
                      show amL b gr m1 = amL b (gr ++ []) m1
                      rw [List.append_nil]
                    rw [hfin']
                    refine IH dp r' a2 e2 hsg2 hdp _ _ _ cu to fr nx _ _ (amL_MS hb _ _ hM) hL3 (fun be3 le3 cu3 to3 fr3 nx3 o23 o33 hL4 hag3 => kk be3 le3 cu3 to3 fr3 nx3 o23 o33 hL4 (fun y hy => ?_))
                    have z1 := hag3 y hy
                    have z2 := hag2 y (by omega)
                    have z3 := hag y hy
                    rw [pk_un (by omega)] at z1
                    exact ⟨z1.1.trans (z2.1.trans z3.1), z1.2.trans (z2.2.trans z3.2)⟩
                  | succ j ij =>
                    intro m1 be1 le1 cu to fr nx o2 o3 hj hM1 hL1 hbe hle hag hfin
                    refine IH (dp + 1) r gr _ hsg (by omega) m1 be1 le1 cu to fr nx o2 o3 hM1 hL1 (fun be2 le2 cu2 to2 fr2 nx2 o22 o32 hL2 hag2 => ?_)
                    obtain ⟨c2, hc2, htl2, rfl, hp2, rfl, -, -, -, -, l52, -⟩ := hL2
                    obtain ⟨rfl, hq2⟩ := l52 rfl
                    have hbt2 : (if p' < n then nI (q p') else NO) = nI 41 := by rw [if_pos hp2, hq2]
                    have hle2 : le2 (dp + 1) = nI (j + 1 + 1) := by rw [(hag2 (dp + 1) (Nat.le_refl _)).2, hle]
                    have hbe2 : be2 (dp + 1) = nI c' := by rw [(hag2 (dp + 1) (Nat.le_refl _)).1, hbe]
                    refine lr_at (by decide) (by decide) ?_
                    refine mj_b0 40 rfl ?_
                    refine mj_brt (show ¬ nI 4 = nI 2 by decide) ?_
                    refine mj_b0 40 rfl ?_
                    refine mj_cV rfl rfl rfl rfl rfl rfl (m_byteAt hT (show p' < 2 ^ 30 by omega)) ?_
                    rw [hbt2]
                    refine mj_b0 40 rfl ?_
                    refine mj_brt (show ¬ nI 41 = nI 40 by decide) ?_
                    refine mj_b1 8 rfl (⟨ii, ii⟩) ?_
                    refine mj_hq (h' := fbP P (mdZ U s g w (amL b gr m1) ((tp, be2, upd le2 (dp + 1) (nI (j + 1)), mk), ta, la, nI n, nI c2, nI 4, nI p', nx2) c v a)) (Eq.trans (b := fbP P (mdZ U s g w (amL b gr m1) ((tp, be2, upd le2 (nI (dp + 1)).toNatClampNeg (le2 (nI (dp + 1)).toNatClampNeg - nI 1), mk), ta, la, nI n, nI c2, nI 4, nI p', nx2) c v a)) rfl (by rw [e1, hle2, pl_m1])) ?_
                    refine mj_b1 40 rfl (ii) ?_
                    rw [e1]
                    refine mj_brf (by rw [show ((tp, be2, upd le2 (dp + 1) (nI (j + 1)), mk), ta, la, nI n, nI c2, nI 4, nI p', nx2).1.2.2.1 (dp + 1) = nI (j + 1) from pk_us]; exact nI_nle (by omega) (by omega)) ?_
                    refine mj_b1 5 rfl (ii) ?_
                    rw [e1, show ((tp, be2, upd le2 (dp + 1) (nI (j + 1)), mk), ta, la, nI n, nI c2, nI 4, nI p', nx2).1.2.1 (dp + 1) = nI c' from hbe2]
                    refine mj_b0 2 rfl ?_
                    refine mj_hq (h' := fbP P (mdZ U s g w (amL b gr m1) ((tp, be2, upd le2 (dp + 1) (nI (j + 1)), mk), ta, la, nI n, nI c', nI 4, nI p', nx2) c v a)) rfl ?_
                    refine lr_next hT hc htl (fun cu to fr nx hL3 => ?_)
                    refine ij _ _ _ cu to fr nx _ _ (by omega) (amL_MS hb _ _ hM1) hL3 hbe2 pk_us (fun y hy => ?_) ?_
                    · have z2 := hag2 y (by omega)
                      have z3 := hag y hy
                      rw [pk_un (by omega)]
                      exact ⟨z2.1.trans z3.1, z2.2.trans z3.2⟩
                    · rw [← hfin]
                      show _ = amL b (gr ++ rep (j + 1) gr) m1
                      rw [amL_app]
                obtain ⟨o', rfl⟩ : ∃ o', o = o' + 1 := ⟨o - 1, by omega⟩
                refine mj_b0 40 rfl ?_
                refine mj_brt (show ¬ nI 4 = nI 2 by decide) ?_
                refine mj_b0 40 rfl ?_
                refine mj_cV rfl rfl rfl rfl rfl rfl (m_byteAt hT (show p < 2 ^ 30 by omega)) ?_
                rw [hbt]
                refine mj_b0 40 rfl ?_
                refine mj_brf (show ¬ ¬ nI 40 = nI 40 by decide) ?_
                refine mj_b0 1 rfl ?_
                rw [show nI dp + mj_kc 1 = nI (dp + 1) from nI_add dp 1]
                refine mj_b1 12 rfl (⟨ii, ii⟩) ?_
                refine mj_hq (h' := fbP P (mdZ U s g w (m) ((tp, upd be (dp + 1) (nI c'), upd le (dp + 1) (nI (o' + 1)), mk), ta, la, nI n, nI c', nI 4, nI p, nx) c v a)) (Eq.trans (b := fbP P (mdZ U s g w (m) ((tp, upd be (nI (dp + 1)).toNatClampNeg (nI c'), upd le (nI (dp + 1)).toNatClampNeg (nI (o' + 1)), mk), ta, la, nI n, nI c', nI 4, nI p, nx) c v a)) rfl (by rw [e1])) ?_
                refine lr_next hT hc htl (fun cu to fr nx hL3 => ?_)
                exact body o' m _ _ cu to fr nx _ _ (by omega) hM hL3 pk_us pk_us (fun y hy => ⟨pk_un (by omega), pk_un (by omega)⟩) rfl
            · rw [if_neg k5] at hs2
              cases hs2
      · rw [if_neg k4] at hs'
        cases hs'
theorem lr_seg (hb : b < 22) (h : Bd b g) (hT : tpM q n tp) : ∀ f : Nat, ∀ (dp : Nat) (ts : List tkT) (x : List Nat) (e : List tkT), seg f dp ts = some (x, e) → dp ≤ 4 → ∀ (m : fM) (be le : fA) (cu to fr nx : Int32) (o2 o3 : Option Value), MS b m → LdR q n ts cu to fr nx → (∀ (be' le' : fA) (cu' to' fr' nx' : Int32) (o2' o3' : Option Value), LdR q n e cu' to' fr' nx' → (∀ x, x ≤ dp → be' x = be x ∧ le' x = le x) → mj_R (mj_C (d + 3)) 9 false none iX9_runAll (11, [some (.ref 35), some (.int (nI dp)), o2', o3'], [], fbP P (mdZ U s g w (amL b x m) ((tp, be', le', mk), ta, la, nI n, cu', to', fr', nx') c v a)) Q) → mj_R (mj_C (d + 3)) 9 false none iX9_runAll (11, [some (.ref 35), some (.int (nI dp)), o2, o3], [], fbP P (mdZ U s g w (m) ((tp, be, le, mk), ta, la, nI n, cu, to, fr, nx) c v a)) Q := by
  have hn := hT.1
  intro f
  induction f with
  | zero => intro dp ts x e hs; cases hs
  | succ f IH =>
    intro dp ts x e hs hdp m be le cu to fr nx o2 o3 hM hL kk
    cases ts with
    | nil =>
      cases hs
      exact kk be le cu to fr nx o2 o3 hL (fun _ _ => ⟨rfl, rfl⟩)
    | cons y r =>
      obtain ⟨k, l, p⟩ := y
      have hs' : (if k = 5 then some ([], (k, l, p) :: r) else if k = 3 then (if 1 ≤ l ∧ l ≤ 20 then sg1 (seg f) dp l r else none) else sg1 (seg f) dp 1 ((k, l, p) :: r)) = some (x, e) := hs
      by_cases k5 : k = 5
      · rw [if_pos k5] at hs'
        cases hs'
        exact kk be le cu to fr nx o2 o3 hL (fun _ _ => ⟨rfl, rfl⟩)
      · rw [if_neg k5] at hs'
        by_cases k3 : k = 3
        · rw [if_pos k3] at hs'
          by_cases hv : 1 ≤ l ∧ l ≤ 20
          · rw [if_pos hv] at hs'
            obtain ⟨c', hc, htl, rfl, hp, rfl, l3, -⟩ := id hL
            obtain ⟨rfl, rfl, -⟩ := l3 k3
            obtain ⟨cu2, to2, fr2, nu2, g1, g2⟩ := m_step (P := P) (U := U) (s := s) (g := g) (w := w) (m := m) (c := c) (v := v) (a := a) (d := d + 1) (be := be) (le := le) (mk := mk) (ta := ta) (la := la) (to := nI 3) (fr := nI p) (nu := nI l) hT hc
            rw [htl] at g1
            refine mj_b0 40 rfl ?_
            refine mj_brf (show ¬ nI 3 = nI 1 by decide) ?_
            refine mj_b0 40 rfl ?_
            refine mj_brf (show ¬ ¬ nI 3 = nI 3 by decide) ?_
            refine mj_b0 40 rfl ?_
            refine mj_cV rfl rfl rfl rfl rfl rfl (g2) ?_
            exact lr_item hb h hT IH hv.1 hv.2 hs' hdp hM g1 kk
          · rw [if_neg hv] at hs'
            cases hs'
        · rw [if_neg k3] at hs'
          obtain ⟨c', hc, htl, rfl, hp, rfl, l3, l0, l2, l4, l5, lk⟩ := id hL
          have ht : ¬ to = nI 1 ∧ ¬ to = nI 3 := by
            rcases lk with h | h | h | h | h
            · rw [l0 h]; decide
            · rw [(l2 h).1]; decide
            · exact absurd h k3
            · rw [(l4 h).1]; decide
            · rw [(l5 h).1]; decide
          exact lr_at ht.1 ht.2 (lr_item hb h hT IH (by omega) (by omega) hs' hdp hM hL kk)
theorem x_runAll {f : Nat} {x : List Nat} {m : fM} {be le : fA} {cu to fr nx : Int32} (hb : b < 22) (h : Bd b g) (hT : tpM q n tp) (hM : MS b m) (hs : seg f 0 (tl q n 0) = some (x, [])) : ∃ be' le' cu' to' fr' nx', mj_C (d + 4) nX9_runAll [.ref 35] (fbP P (mdZ U s g w (m) ((tp, be, le, mk), ta, la, nI n, cu, to, fr, nx) c v a)) none (fbP P (mdZ U s g w (amL b x m) ((tp, be', le', mk), ta, la, nI n, cu', to', fr', nx') c v a)) := by
  have kk : ∃ r2 h2, mj_C (d + 4) nX9_runAll [.ref 35] (fbP P (mdZ U s g w (m) ((tp, be, le, mk), ta, la, nI n, cu, to, fr, nx) c v a)) r2 h2 ∧ (r2 = none ∧ ∃ be' le' cu' to' fr' nx', h2 = fbP P (mdZ U s g w (amL b x m) ((tp, be', le', mk), ta, la, nI n, cu', to', fr', nx') c v a)) := by
    refine mj_C.ex rfl rfl rfl ?_
    refine mj_b0 40 rfl ?_
    refine mj_hq (h' := fbP P (mdZ U s g w (m) ((tp, be, le, mk), ta, la, nI n, nI 0, to, fr, nx) c v a)) rfl ?_
    obtain ⟨cu2, to2, fr2, nu2, g1, g2⟩ := m_step (P := P) (U := U) (s := s) (g := g) (w := w) (m := m) (c := c) (v := v) (a := a) (d := d + 1) (be := be) (le := le) (mk := mk) (ta := ta) (la := la) (to := to) (fr := fr) (nu := nx) hT (show 0 ≤ n by omega)
    refine mj_cV rfl rfl rfl rfl rfl rfl (g2) ?_
    refine lr_seg hb h hT f 0 (tl q n 0) x [] hs (by omega) m be le _ _ _ _ _ _ hM g1 (fun be' le' cu' to' fr' nx' o2' o3' hL _ => ?_)
    obtain ⟨rfl, rfl, rfl⟩ := hL
    refine mj_b0 40 rfl ?_
    refine mj_brt (show nI 1 = nI 1 from rfl) ?_
    exact mj_end rfl rfl trivial ⟨rfl, _, _, _, _, _, _, rfl⟩
  obtain ⟨r2, h2, k1, rfl, be', le', cu', to', fr', nx', rfl⟩ := kk
  exact ⟨be', le', cu', to', fr', nx', k1⟩
end RA
