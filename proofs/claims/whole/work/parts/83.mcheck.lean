/-! promise 18: the model's check -/
def mkF : List tkT → Nat → (Nat → Nat) → (Nat → Nat) → Nat → Nat
  | [], _, ms, _, _ => ms 0
  | (k, x, _) :: r, dp, ms, ls, o => if k = 3 then mkF r dp ms ls x else if k = 4 then mkF r (dp + 1) (uN ms (dp + 1) 0) (uN ls (dp + 1) o) 1 else if k = 5 then mkF r (dp - 1) (uN ms (dp - 1) (ms (dp - 1) + ms dp * ls dp)) ls 1 else if k = 2 then mkF r dp (uN ms dp (ms dp + o)) ls 1 else 0
theorem mkF_c (k x p dp o : Nat) (r : List tkT) (ms ls : Nat → Nat) : mkF ((k, x, p) :: r) dp ms ls o = (if k = 3 then mkF r dp ms ls x else if k = 4 then mkF r (dp + 1) (uN ms (dp + 1) 0) (uN ls (dp + 1) o) 1 else if k = 5 then mkF r (dp - 1) (uN ms (dp - 1) (ms (dp - 1) + ms dp * ls dp)) ls 1 else if k = 2 then mkF r dp (uN ms dp (ms dp + o)) ls 1 else 0) := rfl
def MkR (dp : Nat) (ms ls : Nat → Nat) (mk : fL) (le : fA) : Prop := (∀ e, e ≤ dp → mk e = lN (ms e)) ∧ ∀ e, 1 ≤ e → e ≤ dp → le e = nI (ls e) ∧ ls e ≤ 20
section MC
variable {P : fP} {U : fU} {s : fA × fA × fA} {g : fG} {w : fW} {m : fM} {c : fA × fA × fA} {v : fA × fA} {a : fA × Int32} {d : Nat}
variable {tp be le : fA} {mk : fL} {ta la cu to fr nx : Int32} {q : Nat → Nat} {n : Nat}
def QK (P : fP) (U : fU) (s : fA × fA × fA) (g : fG) (w : fW) (m : fM) (c : fA × fA × fA) (v : fA × fA) (a : fA × Int32) (tp be : fA) (ta la : Int32) (n : Nat) (K : Nat × Nat) (X : Nat) : Option Value → mj_H → Prop := fun r h => r = some (.int (nI K.1)) ∧ ∃ le mk cu to fr nx, h = fbP P (mdZ U s g w m ((tp, be, le, mk), ta, la, nI n, cu, to, fr, nx) c v a) ∧ fr = nI K.2 ∧ (K.1 = 0 → mk 0 = lN X)
/-- no '(' and no ')' -/
theorem lm_ns {Q : Option Value → mj_H → Prop} {o1 o2 o3 o4 o5 : Option Value} {x1 x3 : Int32} (ht : ¬ to = nI 4) (h1 : o1 = some (.int x1)) (h3 : o3 = some (.int x3)) (kk : mj_R (mj_C (d + 2)) 9 false (some .int) iX9_check (112, [some (.ref 35), o1, o2, o3, some (.int (nI 0)), some (.int (nI 0))], [], fbP P (mdZ U s g w m ((tp, be, le, mk), ta, la, nI n, cu, to, fr, nx) c v a)) Q) : mj_R (mj_C (d + 2)) 9 false (some .int) iX9_check (64, [some (.ref 35), o1, o2, o3, o4, o5], [], fbP P (mdZ U s g w m ((tp, be, le, mk), ta, la, nI n, cu, to, fr, nx) c v a)) Q := by
  subst h1
  subst h3
  refine mj_b0 40 rfl ?_
  refine mj_brt (ht) ?_
  refine mj_b0 40 rfl ?_
  refine mj_brt (ht) ?_
  refine mj_b0 2 rfl ?_
  exact kk
theorem lm_no {Q : Option Value → mj_H → Prop} {x1 x3 : Int32} {o2 : Option Value} (h2 : ¬ to = nI 2) (h1 : ¬ to = nI 1) (kk : Q (some (.int (nI 1))) (fbP P (mdZ U s g w m ((tp, be, le, mk), ta, la, nI n, cu, to, fr, nx) c v a))) : mj_R (mj_C (d + 2)) 9 false (some .int) iX9_check (112, [some (.ref 35), some (.int x1), o2, some (.int x3), some (.int (nI 0)), some (.int (nI 0))], [], fbP P (mdZ U s g w m ((tp, be, le, mk), ta, la, nI n, cu, to, fr, nx) c v a)) Q := by
  refine mj_b0 40 rfl ?_
  refine mj_brt (h2) ?_
  refine mj_b0 40 rfl ?_
  refine mj_brt (show nI 0 = 0 from rfl) ?_
  refine mj_b0 40 rfl ?_
  refine mj_brt (show nI 0 = 0 from rfl) ?_
  refine mj_b0 40 rfl ?_
  refine mj_brt (h1) ?_
  refine mj_b0 40 rfl ?_
  exact mj_end rfl rfl trivial kk
set_option maxRecDepth 20000 in
theorem lm_after {K : Nat × Nat} {X : Nat} {ts : List tkT} (hT : tpM q n tp) (IH : ∀ (ts' : List tkT), ts'.length < ts.length → ∀ (dp : Nat) (ms ls : Nat → Nat) (le : fA) (mk : fL) (cu to fr nx : Int32) (o2 o3 o4 o5 : Option Value), dp ≤ 4 → LdR q n ts' cu to fr nx → MkR dp ms ls mk le → ck n ts' dp false = K → mkF ts' dp ms ls 1 = X → mj_R (mj_C (d + 2)) 9 false (some .int) iX9_check (18, [some (.ref 35), some (.int (nI dp)), o2, o3, o4, o5], [], fbP P (mdZ U s g w m ((tp, be, le, mk), ta, la, nI n, cu, to, fr, nx) c v a)) (QK P U s g w m c v a tp be ta la n K X)) {dp o : Nat} {cn : Bool} {ms ls : Nat → Nat} {le : fA} {mk : fL} {cu to fr nx : Int32} {o4 o5 : Option Value} (hdp : dp ≤ 4) (ho : o ≤ 20) (hL : LdR q n ts cu to fr nx) (h3 : cn = true ∨ ∀ x p r, ts ≠ (3, x, p) :: r) (hM : MkR dp ms ls mk le) (hK : ck n ts dp cn = K) (hX : mkF ts dp ms ls o = X) : mj_R (mj_C (d + 2)) 9 false (some .int) iX9_check (64, [some (.ref 35), some (.int (nI dp)), some (.int (nI o)), some (.int (bI cn)), o4, o5], [], fbP P (mdZ U s g w m ((tp, be, le, mk), ta, la, nI n, cu, to, fr, nx) c v a)) (QK P U s g w m c v a tp be ta la n K X) := by
  have hn := hT.1
  cases ts with
  | nil =>
    obtain ⟨rfl, rfl, rfl⟩ := hL
    rw [ck_n] at hK
    subst hK
    refine lm_ns (by decide) rfl rfl ?_
    refine mj_b0 40 rfl ?_
    refine mj_brt (show ¬ nI 1 = nI 2 by decide) ?_
    refine mj_b0 40 rfl ?_
    refine mj_brt (show nI 0 = 0 from rfl) ?_
    refine mj_b0 40 rfl ?_
    refine mj_brt (show nI 0 = 0 from rfl) ?_
    refine mj_b0 40 rfl ?_
    refine mj_brf (show ¬ ¬ nI 1 = nI 1 by decide) ?_
    refine mj_b0 40 rfl ?_
    cases cn with
    | true =>
      refine mj_brt (show ¬ bI true = 0 by decide) ?_
      refine mj_b0 40 rfl ?_
      refine mj_end rfl rfl trivial ⟨by rw [if_pos (Or.inr rfl)]; rfl, _, _, _, _, _, _, rfl, rfl, fun z => ?_⟩
      rw [if_pos (Or.inr rfl)] at z
      cases z
    | false =>
      refine mj_brf (show ¬ ¬ bI false = 0 by decide) ?_
      refine mj_b0 40 rfl ?_
      by_cases h1 : 0 < dp
      · refine mj_brt (nI_ne0 h1 (by omega)) ?_
        refine mj_b0 40 rfl ?_
        refine mj_end rfl rfl trivial ⟨by rw [if_pos (Or.inl h1)]; rfl, _, _, _, _, _, _, rfl, rfl, fun z => ?_⟩
        rw [if_pos (Or.inl h1)] at z
        cases z
      · have e0 : dp = 0 := by omega
        subst e0
        refine mj_brf (show ¬ ¬ nI 0 = 0 by decide) ?_
        refine mj_b0 40 rfl ?_
        exact mj_end rfl rfl trivial ⟨by rw [if_neg (by decide)]; rfl, _, _, _, _, _, _, rfl, rfl, fun _ => by rw [← hX]; exact hM.1 0 (by omega)⟩
  | cons y r =>
    obtain ⟨k, x, p⟩ := y
    obtain ⟨c', hc, htl, rfl, hp, rfl, l3, l0, l2, l4, l5, lk⟩ := hL
    have ii : ∀ e, e ≤ 4 → vp_in (nI e) 5 := fun e he => nI_ix (by omega) (by omega)
    have bad : ¬ to = nI 4 → ¬ to = nI 2 → ¬ to = nI 1 → K = (1, p) → mj_R (mj_C (d + 2)) 9 false (some .int) iX9_check (64, [some (.ref 35), some (.int (nI dp)), some (.int (nI o)), some (.int (bI cn)), o4, o5], [], fbP P (mdZ U s g w m ((tp, be, le, mk), ta, la, nI n, nI c', to, nI p, nx) c v a)) (QK P U s g w m c v a tp be ta la n K X) := by
      intro h4 h2 h1 hKp
      subst hKp
      exact lm_ns h4 rfl rfl (lm_no h2 h1 ⟨rfl, _, _, _, _, _, _, rfl, rfl, fun z => (by cases z)⟩)
    rw [ck_c] at hK
    rw [mkF_c] at hX
    -- the next sign is loaded
    have next : ∀ (dp' : Nat) (ms' ls' : Nat → Nat) (le' : fA) (mk' : fL) (o2 o3 o4 o5 : Option Value), dp' ≤ 4 → MkR dp' ms' ls' mk' le' → ck n r dp' false = K → mkF r dp' ms' ls' 1 = X → mj_R (mj_C (d + 2)) 9 false (some .int) iX9_check (232, [some (.ref 35), some (.int (nI dp')), o2, o3, o4, o5], [], fbP P (mdZ U s g w m ((tp, be, le', mk'), ta, la, nI n, nI c', to, nI p, nx) c v a)) (QK P U s g w m c v a tp be ta la n K X) := by
      intro dp' ms' ls' le' mk' o2 o3 o4 o5 hd' hM' hK' hX'
      obtain ⟨cu2, to2, fr2, nu2, g1, g2⟩ := m_step (P := P) (U := U) (s := s) (g := g) (w := w) (m := m) (c := c) (v := v) (a := a) (d := d) (be := be) (le := le') (mk := mk') (ta := ta) (la := la) (to := to) (fr := nI p) (nu := nx) hT hc
      rw [htl] at g1
      refine mj_b0 40 rfl ?_
      refine mj_cV rfl rfl rfl rfl rfl rfl (g2) ?_
      refine mj_b0 1 rfl ?_
      exact IH r (by simp only [List.length_cons]; omega) dp' ms' ls' le' mk' cu2 to2 fr2 nu2 o2 o3 o4 o5 hd' g1 hM' hK' hX'
    by_cases k3 : k = 3
    · obtain ⟨rfl, -, -⟩ := l3 k3
      subst k3
      rw [if_pos rfl] at hK
      rcases h3 with z | z
      · rw [if_pos z] at hK
        exact bad (by decide) (by decide) (by decide) hK.symm
      · exact absurd rfl (z x p r)
    · rw [if_neg k3] at hK hX
      by_cases k4 : k = 4
      · obtain ⟨rfl, hq⟩ := l4 k4
        rw [if_pos k4] at hK hX
        have hb : (if p < n then nI (q p) else NO) = nI 40 := by rw [if_pos hp, hq]
        refine mj_b0 40 rfl ?_
        refine mj_brf (show ¬ ¬ nI 4 = nI 4 by decide) ?_
        refine mj_b0 40 rfl ?_
        refine mj_cV rfl rfl rfl rfl rfl rfl (m_byteAt hT (show p < 2 ^ 30 by omega)) ?_
        rw [hb]
        refine mj_b0 40 rfl ?_
        refine mj_brf (show ¬ ¬ nI 40 = nI 40 by decide) ?_
        refine mj_b0 40 rfl ?_
        refine mj_brf (show ¬ ¬ nI 4 = nI 4 by decide) ?_
        refine mj_b0 40 rfl ?_
        refine mj_brt (show ¬ nI 1 = 0 by decide) ?_
        refine mj_b0 40 rfl ?_
        refine mj_brt (show ¬ nI 4 = nI 2 by decide) ?_
        refine mj_b0 40 rfl ?_
        refine mj_brf (show ¬ nI 1 = 0 by decide) ?_
        refine mj_b0 40 rfl ?_
        by_cases hd : dp < 4
        · rw [if_pos hd] at hK
          have e1 : (nI (dp + 1)).toNatClampNeg = dp + 1 := nI_clamp (by omega)
          refine mj_brt (fun z => by have := (nI_eq (b := 4) (by omega) (by omega)).mp z; omega) ?_
          refine mj_b0 1 rfl ?_
          rw [show nI dp + mj_kc 1 = nI (dp + 1) from nI_add dp 1]
          refine mj_b1 11 rfl (⟨ii (dp + 1) (by omega), ii (dp + 1) (by omega)⟩) ?_
          refine mj_hq (h' := fbP P (mdZ U s g w m ((tp, be, upd le (dp + 1) (nI o), vp_updL mk (dp + 1) (lN 0)), ta, la, nI n, nI c', nI 4, nI p, nx) c v a)) (Eq.trans (b := fbP P (mdZ U s g w m ((tp, be, upd le (nI (dp + 1)).toNatClampNeg (nI o), vp_updL mk (nI (dp + 1)).toNatClampNeg (lN 0)), ta, la, nI n, nI c', nI 4, nI p, nx) c v a)) rfl (by rw [e1])) ?_
          refine next (dp + 1) _ _ _ _ _ _ _ _ (by omega) ⟨fun e he => ?_, fun e he1 he2 => ?_⟩ hK hX
          · by_cases z : e = dp + 1
            · rw [z, pk_uLs, uN_s]
            · rw [pk_uLn z, uN_n z]
              exact hM.1 e (by omega)
          · by_cases z : e = dp + 1
            · rw [z, pk_us, uN_s]
              exact ⟨rfl, ho⟩
            · rw [pk_un z, uN_n z]
              exact hM.2 e he1 (by omega)
        · rw [if_neg hd] at hK
          subst hK
          refine mj_brf (fun z => z (by rw [show dp = 4 by omega]; rfl)) ?_
          refine mj_b0 40 rfl ?_
          exact mj_end rfl rfl trivial ⟨rfl, _, _, _, _, _, _, rfl, rfl, fun z => (by cases z)⟩
      · rw [if_neg k4] at hK hX
        by_cases k5 : k = 5
        · obtain ⟨rfl, hq⟩ := l5 k5
          rw [if_pos k5] at hK hX
          have hb : (if p < n then nI (q p) else NO) = nI 41 := by rw [if_pos hp, hq]
          refine mj_b0 40 rfl ?_
          refine mj_brf (show ¬ ¬ nI 4 = nI 4 by decide) ?_
          refine mj_b0 40 rfl ?_
          refine mj_cV rfl rfl rfl rfl rfl rfl (m_byteAt hT (show p < 2 ^ 30 by omega)) ?_
          rw [hb]
          refine mj_b0 40 rfl ?_
          refine mj_brt (show ¬ nI 41 = nI 40 by decide) ?_
          refine mj_b0 40 rfl ?_
          refine mj_brf (show ¬ ¬ nI 4 = nI 4 by decide) ?_
          refine mj_b0 40 rfl ?_
          refine mj_brf (show ¬ ¬ nI 0 = 0 by decide) ?_
          refine mj_b0 40 rfl ?_
          refine mj_brt (show ¬ nI 4 = nI 2 by decide) ?_
          refine mj_b0 40 rfl ?_
          refine mj_brt (show nI 0 = 0 from rfl) ?_
          refine mj_b0 40 rfl ?_
          refine mj_brf (show ¬ nI 1 = 0 by decide) ?_
          refine mj_b0 40 rfl ?_
          have fault : K = (1, p) → mj_R (mj_C (d + 2)) 9 false (some .int) iX9_check (210, [some (.ref 35), some (.int (nI dp)), some (.int (nI o)), some (.int (bI cn)), some (.int (nI 0)), some (.int (nI 1))], [], fbP P (mdZ U s g w m ((tp, be, le, mk), ta, la, nI n, nI c', nI 4, nI p, nx) c v a)) (QK P U s g w m c v a tp be ta la n K X) := by
            intro hKp
            subst hKp
            refine mj_b0 40 rfl ?_
            refine mj_brt (show ¬ nI 4 = nI 1 by decide) ?_
            refine mj_b0 40 rfl ?_
            exact mj_end rfl rfl trivial ⟨rfl, _, _, _, _, _, _, rfl, rfl, fun z => (by cases z)⟩
          cases cn with
          | true =>
            rw [if_neg (fun z => by cases z.2)] at hK
            refine mj_brt (show ¬ bI true = 0 by decide) ?_
            exact fault hK.symm
          | false =>
            refine mj_brf (show ¬ ¬ bI false = 0 by decide) ?_
            refine mj_b0 40 rfl ?_
            by_cases hd : 0 < dp
            · rw [if_pos ⟨hd, rfl⟩] at hK
              have e1 : (nI dp).toNatClampNeg = dp := nI_clamp (by omega)
              have e2 : (nI (dp - 1)).toNatClampNeg = dp - 1 := nI_clamp (by omega)
              have es : nI dp - nI 1 = nI (dp - 1) := pk_sub (by omega)
              refine mj_brf (nI_nle hd (by omega)) ?_
              refine mj_b1 19 rfl (by
                show ((vp_in (nI dp - nI 1) 5 ∧ vp_in (nI dp) 5) ∧ vp_in (nI dp) 5) ∧ vp_in (nI dp - nI 1) 5
                rw [es]
                exact ⟨⟨⟨ii _ (by omega), ii _ hdp⟩, ii _ hdp⟩, ii _ (by omega)⟩) ?_
              refine mj_hq (h' := fbP P (mdZ U s g w m ((tp, be, le, vp_updL mk (dp - 1) (lN (ms (dp - 1) + ms dp * ls dp))), ta, la, nI n, nI c', nI 4, nI p, nx) c v a)) (Eq.trans (b := fbP P (mdZ U s g w m ((tp, be, le, vp_updL mk (nI dp - nI 1).toNatClampNeg (mk (nI dp - nI 1).toNatClampNeg + mk (nI dp).toNatClampNeg * (le (nI dp).toNatClampNeg).toInt64)), ta, la, nI n, nI c', nI 4, nI p, nx) c v a)) rfl (by
                rw [es, e1, e2, hM.1 (dp - 1) (by omega), hM.1 dp (by omega), (hM.2 dp (by omega) (by omega)).1, nI_l (by have := (hM.2 dp (by omega) (by omega)).2; omega), lN_mul, lN_add])) ?_
              refine mj_b0 1 rfl ?_
              rw [show nI dp + mj_kc (-1) = nI (dp - 1) from by
                show nI dp + -(nI 1) = nI (dp - 1)
                rw [← Int32.sub_eq_add_neg, es]]
              refine mj_b0 1 rfl ?_
              refine next (dp - 1) _ ls _ _ _ _ _ _ (by omega) ⟨fun e he => ?_, fun e he1 he2 => hM.2 e he1 (by omega)⟩ hK hX
              by_cases z : e = dp - 1
              · rw [z, pk_uLs, uN_s]
              · rw [pk_uLn z, uN_n z]
                exact hM.1 e (by omega)
            · rw [if_neg (fun z => hd z.1)] at hK
              refine mj_brt (by rw [show dp = 0 by omega]; decide) ?_
              exact fault hK.symm
        · rw [if_neg k5] at hK hX
          by_cases k2 : k = 2
          · obtain ⟨rfl, hq, hlet⟩ := l2 k2
            rw [if_pos k2] at hK hX
            have e1 : (nI dp).toNatClampNeg = dp := nI_clamp (by omega)
            refine lm_ns (by decide) rfl rfl ?_
            refine mj_b0 40 rfl ?_
            refine mj_brf (show ¬ ¬ nI 2 = nI 2 by decide) ?_
            refine mj_b1 10 rfl (⟨ii dp hdp, ii dp hdp⟩) ?_
            refine mj_hq (h' := fbP P (mdZ U s g w m ((tp, be, le, vp_updL mk dp (lN (ms dp + o))), ta, la, nI n, nI c', nI 2, nI p, nx) c v a)) (Eq.trans (b := fbP P (mdZ U s g w m ((tp, be, le, vp_updL mk (nI dp).toNatClampNeg (mk (nI dp).toNatClampNeg + (nI o).toInt64)), ta, la, nI n, nI c', nI 2, nI p, nx) c v a)) rfl (by rw [e1, hM.1 dp (Nat.le_refl _), nI_l (by omega), lN_add])) ?_
            refine next dp _ ls _ _ _ _ _ _ hdp ⟨fun e he => ?_, hM.2⟩ hK hX
            by_cases z : e = dp
            · rw [z, pk_uLs, uN_s]
            · rw [pk_uLn z, uN_n z]
              exact hM.1 e he
          · rw [if_neg k2] at hK
            have k0 : k = 0 := by omega
            have ht := l0 k0
            subst ht
            exact bad (by decide) (by decide) (by decide) hK.symm
theorem lm_check {K : Nat × Nat} {X : Nat} (hT : tpM q n tp) : ∀ (L : Nat) (ts : List tkT), ts.length < L → ∀ (dp : Nat) (ms ls : Nat → Nat) (le : fA) (mk : fL) (cu to fr nx : Int32) (o2 o3 o4 o5 : Option Value), dp ≤ 4 → LdR q n ts cu to fr nx → MkR dp ms ls mk le → ck n ts dp false = K → mkF ts dp ms ls 1 = X → mj_R (mj_C (d + 2)) 9 false (some .int) iX9_check (18, [some (.ref 35), some (.int (nI dp)), o2, o3, o4, o5], [], fbP P (mdZ U s g w m ((tp, be, le, mk), ta, la, nI n, cu, to, fr, nx) c v a)) (QK P U s g w m c v a tp be ta la n K X) := by
  have hn := hT.1
  intro L
  induction L with
  | zero => intro ts h; omega
  | succ L IH =>
    intro ts hl dp ms ls le mk cu to fr nx o2 o3 o4 o5 hdp hL hM hK hX
    have plain : ¬ to = nI 3 → (∀ x p r, ts ≠ (3, x, p) :: r) → mj_R (mj_C (d + 2)) 9 false (some .int) iX9_check (18, [some (.ref 35), some (.int (nI dp)), o2, o3, o4, o5], [], fbP P (mdZ U s g w m ((tp, be, le, mk), ta, la, nI n, cu, to, fr, nx) c v a)) (QK P U s g w m c v a tp be ta la n K X) := by
      intro h3 h4
      refine mj_b0 40 rfl ?_
      refine mj_brt (h3) ?_
      refine mj_b0 40 rfl ?_
      refine mj_brt (show nI 0 = 0 from rfl) ?_
      exact lm_after (cn := false) (o := 1) hT (fun ts' hts' => IH ts' (by omega)) hdp (by omega) hL (Or.inr h4) hM hK hX
    cases ts with
    | nil =>
      obtain ⟨rfl, rfl, rfl⟩ := id hL
      exact plain (by decide) (fun x p r z => by cases z)
    | cons y r =>
      obtain ⟨k, x, p⟩ := y
      obtain ⟨c', hc, htl, rfl, hp, rfl, l3, l0, l2, l4, l5, lk⟩ := id hL
      by_cases k3 : k = 3
      · obtain ⟨rfl, rfl, hx5⟩ := l3 k3
        subst k3
        rw [ck_c, if_pos rfl, if_neg (by decide)] at hK
        rw [mkF_c, if_pos rfl] at hX
        simp only [List.length_cons] at hl
        refine mj_b0 40 rfl ?_
        refine mj_brf (show ¬ ¬ nI 3 = nI 3 by decide) ?_
        refine mj_b0 40 rfl ?_
        refine mj_brf (show ¬ nI 1 = 0 by decide) ?_
        refine mj_b0 40 rfl ?_
        refine mj_cS rfl rfl rfl rfl (m_in32 (nI x) (nI 1) (nI 20) (by decide) (by decide)) ?_
        refine mj_b0 40 rfl ?_
        by_cases hx : 1 ≤ x ∧ x ≤ 20
        · rw [if_pos hx] at hK
          obtain ⟨cu2, to2, fr2, nu2, g1, g2⟩ := m_step (P := P) (U := U) (s := s) (g := g) (w := w) (m := m) (c := c) (v := v) (a := a) (d := d) (be := be) (le := le) (mk := mk) (ta := ta) (la := la) (to := nI 3) (fr := nI p) (nu := nI x) hT hc
          rw [htl] at g1
          refine mj_brt (fun z => vB_0.mp z ⟨nI_nlt hx.1 (by omega), nI_nlt hx.2 (by omega)⟩) ?_
          refine mj_b0 40 rfl ?_
          refine mj_cV rfl rfl rfl rfl rfl rfl (g2) ?_
          exact lm_after (cn := true) hT (fun ts' hts' => IH ts' (by omega)) hdp hx.2 g1 (Or.inl rfl) hM hK hX
        · rw [if_neg hx] at hK
          subst hK
          have hx2 : ¬ (¬ nI x < nI 1 ∧ ¬ nI 20 < nI x) := by
            rw [nI_ltI (by omega) (by omega), nI_ltI (by omega) (by omega)]
            omega
          refine mj_brf (fun z => z (vB_0.mpr hx2)) ?_
          refine mj_b0 40 rfl ?_
          exact mj_end rfl rfl trivial ⟨rfl, _, _, _, _, _, _, rfl, rfl, fun z => (by cases z)⟩
      · refine plain (fun z => ?_) (fun x2 p2 r2 z => ?_)
        · rcases lk with h | h | h | h | h
          · rw [l0 h] at z; exact absurd z (by decide)
          · rw [(l2 h).1] at z; exact absurd z (by decide)
          · exact k3 h
          · rw [(l4 h).1] at z; exact absurd z (by decide)
          · rw [(l5 h).1] at z; exact absurd z (by decide)
        · injection z with z1 z2
          injection z1 with z3 z4
          exact k3 z3
end MC
