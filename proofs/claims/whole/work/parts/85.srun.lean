/-! promise 18, side by side -/
def ltr (x : Nat) : Prop := x = 102 ∨ x = 108 ∨ x = 114 ∨ x = 98
def TLt (ts : List tkT) : Prop := ∀ t, t ∈ ts → t.1 = 2 → ltr t.2.1
def LtL (a : List Nat) : Prop := ∀ x, x ∈ a → ltr x
theorem LtL.app {a b : List Nat} (h1 : LtL a) (h2 : LtL b) : LtL (a ++ b) := fun x hx => (List.mem_append.mp hx).elim (h1 x) (h2 x)
theorem LtL.rep {g : List Nat} (h : LtL g) : ∀ o, LtL (rep o g)
  | 0 => fun x hx => (by cases hx)
  | o + 1 => LtL.app h (LtL.rep h o)
theorem tlf_lt (q : Nat → Nat) (n : Nat) : ∀ f i, TLt (tlf q n f i)
  | 0, i => fun t ht => (by cases ht)
  | f + 1, i => by
    simp only [tlf]
    split
    · split
      · exact tlf_lt q n f (i + 1)
      · split
        · intro t ht hk
          rcases List.mem_cons.mp ht with z | z
          · rw [z] at hk
            have hk' : (if fg q n i ≤ 2 then 3 else 0) = 2 := hk
            split at hk' <;> omega
          · exact tlf_lt q n f _ t z hk
        · intro t ht hk
          rcases List.mem_cons.mp ht with z | z
          · rw [z] at hk ⊢
            exact kdT2 hk
          · exact tlf_lt q n f _ t z hk
    · intro t ht
      cases ht
theorem sg1_lt {f dp o : Nat} {ts : List tkT} {a : List Nat} {e : List tkT} (hs : sg1 (seg f) dp o ts = some (a, e)) (ht : TLt ts) (IH : ∀ (dp : Nat) (ts : List tkT) (a : List Nat) (e : List tkT), seg f dp ts = some (a, e) → TLt ts → LtL a ∧ TLt e) : LtL a ∧ TLt e := by
  cases ts with
  | nil => cases hs
  | cons y r =>
    obtain ⟨k, x, p⟩ := y
    have hr : TLt r := fun t h => ht t (List.mem_cons_of_mem _ h)
    have hs' : (if k = 2 then sgA (rep o [x]) (seg f dp r) else if k = 4 ∧ dp < 4 then sgG o (seg f dp) (seg f (dp + 1) r) else none) = some (a, e) := hs
    by_cases k2 : k = 2
    · rw [if_pos k2] at hs'
      cases hsg : seg f dp r with
      | none => rw [hsg] at hs'; cases hs'
      | some ae =>
        obtain ⟨a2, e2⟩ := ae
        rw [hsg] at hs'
        have hs2 : some (rep o [x] ++ a2, e2) = some (a, e) := hs'
        injection hs2 with hs3
        injection hs3 with ha he
        subst ha
        subst he
        obtain ⟨g1, g2⟩ := IH dp r a2 e2 hsg hr
        refine ⟨LtL.app (LtL.rep (fun y hy => ?_) o) g1, g2⟩
        rw [List.mem_singleton.mp hy]
        exact ht (k, x, p) List.mem_cons_self k2
    · rw [if_neg k2] at hs'
      by_cases k4 : k = 4 ∧ dp < 4
      · rw [if_pos k4] at hs'
        cases hsg : seg f (dp + 1) r with
        | none => rw [hsg] at hs'; cases hs'
        | some ge =>
          obtain ⟨g, ee⟩ := ge
          rw [hsg] at hs'
          cases ee with
          | nil => cases hs'
          | cons y2 r' =>
            obtain ⟨k', v', p'⟩ := y2
            have hs2 : (if k' = 5 then sgA (rep o g) (seg f dp r') else none) = some (a, e) := hs'
            by_cases k5 : k' = 5
            · rw [if_pos k5] at hs2
              cases hsg2 : seg f dp r' with
              | none => rw [hsg2] at hs2; cases hs2
              | some ae =>
                obtain ⟨a2, e2⟩ := ae
                rw [hsg2] at hs2
                have hs3 : some (rep o g ++ a2, e2) = some (a, e) := hs2
                injection hs3 with hs4
                injection hs4 with ha he
                subst ha
                subst he
                obtain ⟨g1, g2⟩ := IH (dp + 1) r g _ hsg hr
                obtain ⟨m1, m2⟩ := IH dp r' a2 e2 hsg2 (fun t h => g2 t (List.mem_cons_of_mem _ h))
                exact ⟨LtL.app (LtL.rep g1 o) m1, m2⟩
            · rw [if_neg k5] at hs2
              cases hs2
      · rw [if_neg k4] at hs'
        cases hs'
theorem seg_lt : ∀ (f dp : Nat) (ts : List tkT) (a : List Nat) (e : List tkT), seg f dp ts = some (a, e) → TLt ts → LtL a ∧ TLt e
  | 0, dp, ts, a, e, h, _ => by cases h
  | f + 1, dp, ts, a, e, h, ht => by
    have IH := fun dp ts a e => seg_lt f dp ts a e
    cases ts with
    | nil =>
      cases h
      exact ⟨fun x hx => (by cases hx), ht⟩
    | cons y r =>
      obtain ⟨k, x, p⟩ := y
      have hr : TLt r := fun t h => ht t (List.mem_cons_of_mem _ h)
      have hs' : (if k = 5 then some ([], (k, x, p) :: r) else if k = 3 then (if 1 ≤ x ∧ x ≤ 20 then sg1 (seg f) dp x r else none) else sg1 (seg f) dp 1 ((k, x, p) :: r)) = some (a, e) := h
      by_cases k5 : k = 5
      · rw [if_pos k5] at hs'
        cases hs'
        exact ⟨fun x hx => (by cases hx), ht⟩
      · rw [if_neg k5] at hs'
        by_cases k3 : k = 3
        · rw [if_pos k3] at hs'
          by_cases hv : 1 ≤ x ∧ x ≤ 20
          · rw [if_pos hv] at hs'
            exact sg1_lt hs' hr IH
          · rw [if_neg hv] at hs'
            cases hs'
        · rw [if_neg k3] at hs'
          exact sg1_lt hs' ht IH
section RC
variable {sc : mj_E} {F : Int32 × Int32} {S : fA × fA × fA} {G : fG} {Y : fY} {M : fM} {C : fC} {V : fV} {A : fA × Int32} {Z : mj_H} {d b : Nat}
variable {t1 t2 t3 t4 : fA} {fp : Int32} {q : Nat → Nat} {n : Nat}
theorem c_run_f (hT : tpB q n t2) (hf : (ck n (tl q n 0) 0 false).1 ≠ 0) (hf3 : (ck n (tl q n 0) 0 false).1 < 1000) : mj_C (d + 6) nX8_run [.ref 1] (fbH sc F S G Y M (t1, t2, t3, t4, nI n, fp) C V A Z) (some (.int (-1000100 - nI (ck n (tl q n 0) 0 false).2))) (fbH sc (F.1, nI (ck n (tl q n 0) 0 false).1) S G Y M (t1, t2, t3, t4, nI 0, nI (ck n (tl q n 0) 0 false).2) C V A Z) := by
  refine mj_C.of rfl rfl rfl ?_
  refine mj_b0 40 rfl ?_
  refine mj_cV rfl rfl rfl rfl rfl rfl (x_check hT) ?_
  refine mj_b0 40 rfl ?_
  refine mj_brf (nI_ne0 (by omega) (by omega)) ?_
  refine mj_b0 40 rfl ?_
  exact mj_end rfl rfl trivial ⟨rfl, rfl⟩
theorem x_run {f : Nat} {x : List Nat} (hb : b < 22) (h : Bd b G) (hM : MS b M) (hT : tpB q n t2) (hk : (ck n (tl q n 0) 0 false).1 = 0) (hs : seg f 0 (tl q n 0) = some (x, [])) (hl : LtL x) : ∃ T' : fT, T'.2.2.2.2.1 = nI 0 ∧ mj_C (d + 6) nX8_run [.ref 1] (fbH sc F S G Y M (t1, t2, t3, t4, nI n, fp) C V A Z) (some (.int (if x.length ≤ 2000 then nI x.length else -1000900))) (fbH sc F S G Y (if x.length ≤ 2000 then amL b x M else M) T' C V A Z) := by
  obtain ⟨t1', t3', t4', k1, k2⟩ := x_unroll (sc := sc) (F := F) (S := S) (G := G) (Y := Y) (M := M) (t1 := t1) (t2 := t2) (t3 := t3) (t4 := t4) (fp := nI (ck n (tl q n 0) 0 false).2) (C := C) (V := V) (A := A) (Z := Z) (d := d + 2) hT hs
  refine ⟨(t1', t2, t3', t4', nI 0, nI (ck n (tl q n 0) 0 false).2), rfl, ?_⟩
  have hc := x_check (sc := sc) (F := F) (S := S) (G := G) (Y := Y) (M := M) (t1 := t1) (t2 := t2) (t3 := t3) (t4 := t4) (fp := fp) (C := C) (V := V) (A := A) (Z := Z) (d := d) hT
  refine mj_C.of rfl rfl rfl ?_
  refine mj_b0 40 rfl ?_
  refine mj_cV rfl rfl rfl rfl rfl rfl (hc) ?_
  refine mj_b0 40 rfl ?_
  refine mj_brt (by rw [hk]; decide) ?_
  refine mj_b0 40 rfl ?_
  refine mj_cV rfl rfl rfl rfl rfl rfl (k1) ?_
  refine mj_b0 40 rfl ?_
  refine mj_hq (h' := fbH sc F S G Y M (t1', t2, t3', t4', nI 0, nI (ck n (tl q n 0) 0 false).2) C V A Z) rfl ?_
  by_cases hfit : x.length ≤ 2000
  · rw [if_pos hfit, if_pos hfit, if_pos hfit]
    have hac := k2 hfit
    refine mj_brt (show nI x.length ≤ nI 2000 from nI_le hfit (by omega)) ?_
    refine mj_b0 2 rfl ?_
    refine mj_sq (S' := (64, [some (.ref 1), some (.int (nI (ck n (tl q n 0) 0 false).1)), some (.int (nI x.length)), some (.int (nI 0))], [], fbH sc F S G Y (amL b (x.take 0) M) (t1', t2, t3', t4', nI 0, nI (ck n (tl q n 0) 0 false).2) C V A Z)) rfl ?_
    refine mj_iter (fun i => (64, [some (.ref 1), some (.int (nI (ck n (tl q n 0) 0 false).1)), some (.int (nI x.length)), some (.int (nI i))], [], fbH sc F S G Y (amL b (x.take i) M) (t1', t2, t3', t4', nI 0, nI (ck n (tl q n 0) 0 false).2) C V A Z)) x.length (fun i hi ih => ?_) ?_
    · obtain ⟨y, hy⟩ := len_some hi
      have hy2 := hac i y hy
      have hlet := hl y (List.mem_of_getElem? hy)
      have e1 : (nI i).toNatClampNeg = i := nI_clamp (by omega)
      rw [← nI_add i 1, List.take_add_one, hy, amL_app] at ih
      refine mj_b0 40 rfl ?_
      refine mj_brf (nI_ge hi (by omega)) ?_
      refine mj_b1 40 rfl (nI_ix (show i < 2000 by omega) (by omega)) ?_
      rw [e1, show (t1', t2, t3', t4', nI 0, nI (ck n (tl q n 0) 0 false).2).1 i = nI y from hy2.1]
      refine mj_cV rfl rfl rfl rfl rfl rfl (c_act hb h (amL_MS hb _ _ hM) hlet) ?_
      refine mj_b0 2 rfl ?_
      exact ih
    · refine mj_b0 40 rfl ?_
      refine mj_brt (nI_le (by omega) (by omega)) ?_
      refine mj_b0 40 rfl ?_
      exact mj_end rfl rfl trivial ⟨rfl, by rw [List.take_length]⟩
  · rw [if_neg hfit, if_neg hfit, if_neg hfit]
    refine mj_brf (show ¬ nI 2001 ≤ nI 2000 by decide) ?_
    refine mj_b0 40 rfl ?_
    exact mj_end rfl rfl trivial ⟨rfl, rfl⟩
end RC
section RM
variable {P : fP} {U : fU} {s : fA × fA × fA} {g : fG} {w : fW} {m : fM} {c : fA × fA × fA} {v : fA × fA} {a : fA × Int32} {d b : Nat}
variable {tp be le : fA} {mk : fL} {ta la sz cu to fr nx : Int32} {q : Nat → Nat} {n : Nat}
theorem x_mcheck (hT : tpM q n tp) : ∃ le' mk' cu' to' fr' nx', mj_C (d + 3) nX9_check [.ref 35] (fbP P (mdZ U s g w (m) ((tp, be, le, mk), ta, la, nI n, cu, to, fr, nx) c v a)) (some (.int (nI (ck n (tl q n 0) 0 false).1))) (fbP P (mdZ U s g w (m) ((tp, be, le', mk'), ta, la, nI n, cu', to', fr', nx') c v a)) ∧ fr' = nI (ck n (tl q n 0) 0 false).2 ∧ ((ck n (tl q n 0) 0 false).1 = 0 → mk' 0 = lN (mkF (tl q n 0) 0 (fun _ => 0) (fun _ => 0) 1)) := by
  have kk : ∃ r2 h2, mj_C (d + 3) nX9_check [.ref 35] (fbP P (mdZ U s g w (m) ((tp, be, le, mk), ta, la, nI n, cu, to, fr, nx) c v a)) r2 h2 ∧ QK P U s g w m c v a tp be ta la n (ck n (tl q n 0) 0 false) (mkF (tl q n 0) 0 (fun _ => 0) (fun _ => 0) 1) r2 h2 := by
    obtain ⟨cu2, to2, fr2, nu2, g1, g2⟩ := m_step (P := P) (U := U) (s := s) (g := g) (w := w) (m := m) (c := c) (v := v) (a := a) (d := d) (be := be) (le := le) (mk := vp_updL mk 0 (lN 0)) (ta := ta) (la := la) (to := to) (fr := fr) (nu := nx) hT (show 0 ≤ n by omega)
    refine mj_C.ex rfl rfl rfl ?_
    refine mj_b1 40 rfl (show vp_in (nI 0) 5 from nI_ix (by omega) (by omega)) ?_
    refine mj_hq (h' := fbP P (mdZ U s g w (m) ((tp, be, le, vp_updL mk 0 (lN 0)), ta, la, nI n, nI 0, to, fr, nx) c v a)) rfl ?_
    refine mj_cV rfl rfl rfl rfl rfl rfl (g2) ?_
    refine lm_check hT ((tl q n 0).length + 1) (tl q n 0) (by omega) 0 (fun _ => 0) (fun _ => 0) _ _ _ _ _ _ _ _ _ _ (by omega) g1 ⟨fun e he => ?_, fun e he1 he2 => absurd he1 (by omega)⟩ rfl rfl
    rw [show e = 0 by omega, pk_uLs]
  obtain ⟨r2, h2, k1, rfl, le', mk', cu', to', fr', nx', rfl, k2, k3⟩ := kk
  exact ⟨le', mk', cu', to', fr', nx', k1, k2, k3⟩
theorem m_run_f (hT : tpM q n tp) (hf : (ck n (tl q n 0) 0 false).1 ≠ 0) (hf3 : (ck n (tl q n 0) 0 false).1 < 1000) : ∃ t' : fR, t'.2.1 = nI 0 ∧ t'.2.2.1 = nI (ck n (tl q n 0) 0 false).1 ∧ mj_C (d + 6) nX9_run [.ref 35] (fbP P (mdZ U s g w (m) ((tp, be, le, mk), nI n, la, sz, cu, to, fr, nx) c v a)) (some (.int (-1000100 - nI (ck n (tl q n 0) 0 false).2))) (fbP P (mdZ (nI 0, U.2) s g w m t' c v a)) := by
  obtain ⟨le', mk', cu', to', fr', nx', k1, rfl, -⟩ := x_mcheck (P := P) (U := (nI 0, U.2)) (s := s) (g := g) (w := w) (m := m) (c := c) (v := v) (a := a) (d := d + 2) (be := be) (le := le) (mk := mk) (ta := nI 0) (la := la) (cu := cu) (to := to) (fr := fr) (nx := nx) hT
  refine ⟨((tp, be, le', mk'), nI 0, nI (ck n (tl q n 0) 0 false).1, nI n, cu', to', nI (ck n (tl q n 0) 0 false).2, nx'), rfl, rfl, ?_⟩
  refine mj_C.of rfl rfl rfl ?_
  refine mj_b0 40 rfl ?_
  refine mj_hq (h' := fbP P (mdZ (nI 0, U.2) s g w (m) ((tp, be, le, mk), nI 0, la, nI n, cu, to, fr, nx) c v a)) rfl ?_
  refine mj_cV rfl rfl rfl rfl rfl rfl (k1) ?_
  refine mj_b0 40 rfl ?_
  refine mj_brf (nI_nle (by omega) (by omega)) ?_
  refine mj_b0 40 rfl ?_
  exact mj_end rfl rfl trivial ⟨rfl, rfl⟩
theorem x_mrun {f : Nat} {x : List Nat} (hb : b < 22) (h : Bd b g) (hM : MS b m) (hT : tpM q n tp) (hk : (ck n (tl q n 0) 0 false).1 = 0) (hs : seg f 0 (tl q n 0) = some (x, [])) (hx : x.length < 2 ^ 62) : ∃ t' : fR, t'.2.1 = nI 0 ∧ t'.2.2.1 = la ∧ mj_C (d + 6) nX9_run [.ref 35] (fbP P (mdZ U s g w (m) ((tp, be, le, mk), nI n, la, sz, cu, to, fr, nx) c v a)) (some (.int (if x.length ≤ 2000 then nI x.length else -1000900))) (fbP P (mdZ (nI 0, U.2) s g w (if x.length ≤ 2000 then amL b x m else m) t' c v a)) := by
  obtain ⟨le', mk', cu', to', fr', nx', k1, -, k3⟩ := x_mcheck (P := P) (U := (nI 0, U.2)) (s := s) (g := g) (w := w) (m := m) (c := c) (v := v) (a := a) (d := d + 2) (be := be) (le := le) (mk := mk) (ta := nI 0) (la := la) (cu := cu) (to := to) (fr := fr) (nx := nx) hT
  have hmk : mk' 0 = lN x.length := by
    rw [k3 hk]
    obtain ⟨ms', ls', g1, g2, -, -⟩ := mk_seg f 0 (tl q n 0) x [] hs (fun _ => 0) (fun _ => 0)
    rw [g1]
    show lN (ms' 0) = _
    rw [g2, Nat.zero_add]
  have i0 : vp_in (nI 0) 5 := nI_ix (by omega) (by omega)
  by_cases hfit : x.length ≤ 2000
  · obtain ⟨be2, le2, cu2, to2, fr2, nx2, k4⟩ := x_runAll (P := P) (U := (nI 0, U.2)) (s := s) (g := g) (w := w) (m := m) (c := c) (v := v) (a := a) (d := d + 1) (be := be) (le := le') (mk := mk') (ta := nI 0) (la := la) (cu := cu') (to := to') (fr := fr') (nx := nx') hb h hT hM hs
    refine ⟨((tp, be2, le2, mk'), nI 0, la, nI n, cu2, to2, fr2, nx2), rfl, rfl, ?_⟩
    rw [if_pos hfit, if_pos hfit]
    refine mj_C.of rfl rfl rfl ?_
    refine mj_b0 40 rfl ?_
    refine mj_hq (h' := fbP P (mdZ (nI 0, U.2) s g w (m) ((tp, be, le, mk), nI 0, la, nI n, cu, to, fr, nx) c v a)) rfl ?_
    refine mj_cV rfl rfl rfl rfl rfl rfl (k1) ?_
    refine mj_b0 40 rfl ?_
    refine mj_brt (by rw [hk]; decide) ?_
    refine mj_b1 40 rfl (i0) ?_
    refine mj_brt (by
      show lg_cmp (mk' 0) 2000 ≤ 0
      rw [hmk]
      exact (lg_cmp_le _ _).mpr (show lN x.length ≤ lN 2000 from (pk_lLE (by omega) (by omega)).mpr hfit)) ?_
    refine mj_b0 40 rfl ?_
    refine mj_cV rfl rfl rfl rfl rfl rfl (k4) ?_
    refine mj_b1 40 rfl (i0) ?_
    exact mj_end rfl rfl trivial ⟨by
      show some (Value.int (mk' 0).toInt32) = _
      rw [hmk, lN_i], rfl⟩
  · refine ⟨((tp, be, le', mk'), nI 0, la, nI n, cu', to', fr', nx'), rfl, rfl, ?_⟩
    rw [if_neg hfit, if_neg hfit]
    refine mj_C.of rfl rfl rfl ?_
    refine mj_b0 40 rfl ?_
    refine mj_hq (h' := fbP P (mdZ (nI 0, U.2) s g w (m) ((tp, be, le, mk), nI 0, la, nI n, cu, to, fr, nx) c v a)) rfl ?_
    refine mj_cV rfl rfl rfl rfl rfl rfl (k1) ?_
    refine mj_b0 40 rfl ?_
    refine mj_brt (by rw [hk]; decide) ?_
    refine mj_b1 40 rfl (i0) ?_
    refine mj_brf (by
      show ¬ lg_cmp (mk' 0) 2000 ≤ 0
      rw [hmk]
      exact fun z => hfit ((pk_lLE (by omega) (by omega)).mp (show lN x.length ≤ lN 2000 from (lg_cmp_le _ _).mp z))) ?_
    refine mj_b0 40 rfl ?_
    exact mj_end rfl rfl trivial ⟨rfl, rfl⟩
end RM
theorem ck_lt (n : Nat) : ∀ (ts : List tkT) (dp : Nat) (cn : Bool), (ck n ts dp cn).1 < 1000
  | [], dp, cn => by
    rw [ck_n]
    show (if 0 < dp ∨ cn = true then 1 else 0) < 1000
    split <;> omega
  | (k, x, p) :: ts, dp, cn => by
    rw [ck_c]
    have h1 := ck_lt n ts dp true
    have h2 := ck_lt n ts (dp + 1) false
    have h3 := ck_lt n ts (dp - 1) false
    have h4 := ck_lt n ts dp false
    repeat' split
    all_goals first | assumption | (show _ < 1000; omega)
section RS
variable {d : Nat}
/-- promise 18 -/
theorem s_run : Sim (d + 6) nX8_run nX9_run [] := by
  intro P z hr
  obtain ⟨U, s, g, w, m, ⟨⟨tp, be, le, mk⟩, ta, la, sz, cu, to, fr, nx⟩, c, v, a⟩ := z
  obtain ⟨sc, F, S, G, Y, M, ⟨t1, t2, t3, t4, L'', fp⟩, C, V, A⟩ := P
  obtain ⟨b, hb, h1, h2, h3, h4, h5, h6, ⟨h7, h7'⟩, ⟨n, g1, g2, g3, g4⟩, h9⟩ := id hr
  have g2' : L'' = nI n := g2
  have g3' : ta = nI n := g3
  have h7e : M = m := h7
  subst g2'
  subst g3'
  subst h7e
  have hMS : MS b M := h7'
  have g4' : ∀ i, i < n → ∃ q, q < 256 ∧ tp i = nI q ∧ t2 i = (nI q).toInt8.toInt32 := g4
  obtain ⟨q, hq⟩ : ∃ q : Nat → Nat, ∀ i, i < n → q i < 256 ∧ tp i = nI (q i) ∧ t2 i = sb (q i) := ⟨fun i => (tp i).toNatClampNeg, fun i hi => by
    obtain ⟨x, x1, x2, x3⟩ := g4' i hi
    have e : (tp i).toNatClampNeg = x := by rw [x2]; exact nI_clamp (by omega)
    show (tp i).toNatClampNeg < 256 ∧ tp i = nI (tp i).toNatClampNeg ∧ t2 i = sb (tp i).toNatClampNeg
    rw [e]
    exact ⟨x1, x2, x3⟩⟩
  have hB : tpB q n t2 := ⟨g1, fun i hi => ⟨(hq i hi).2.2, (hq i hi).1⟩⟩
  have hMd : tpM q n tp := ⟨g1, fun i hi => ⟨(hq i hi).2.1, (hq i hi).1⟩⟩
  have hlt := ck_lt n (tl q n 0) 0 false
  by_cases hk : (ck n (tl q n 0) 0 false).1 = 0
  · obtain ⟨x, e, hs, he1, he2, he3⟩ := ck_seg (n := n) ((tl q n 0).length + 1) (tl q n 0) 0 (by omega) (by omega) hk
    rcases he3 with ⟨rfl, -⟩ | ⟨v', p', r', -, hz, -⟩
    rotate_left
    · omega
    have hlen := tl_len q n 0
    have hx62 : x.length < 2 ^ 62 := by
      have h20 : (20 : Nat) ^ (5 - 0) = 3200000 := by decide
      rw [h20] at he2
      simp only [List.length_nil, Nat.sub_zero] at he2 hlen
      have : (tl q n 0).length * 3200000 ≤ 300 * 3200000 := Nat.mul_le_mul_right _ (by omega)
      omega
    have hlet := (seg_lt _ _ _ _ _ hs (tlf_lt q n (n - 0) 0)).1
    obtain ⟨T', k1, k2⟩ := x_run (sc := sc) (F := F) (S := S) (Y := Y) (t1 := t1) (t3 := t3) (t4 := t4) (fp := fp) (C := C) (V := V) (A := A) (Z := mdz (U, s, g, w, M, ((tp, be, le, mk), nI n, la, sz, cu, to, fr, nx), c, v, a)) (d := d) hb h1 hMS hB hk hs hlet
    obtain ⟨t', k3, k4, k5⟩ := x_mrun (P := (sc, F, S, G, Y, (if x.length ≤ 2000 then amL b x M else M), T', C, V, A)) (U := U) (s := s) (w := w) (c := c) (v := v) (a := a) (d := d) (be := be) (le := le) (mk := mk) (la := la) (sz := sz) (cu := cu) (to := to) (fr := fr) (nx := nx) hb h2 hMS hMd hk hs hx62
    refine ⟨_, (sc, F, S, G, Y, (if x.length ≤ 2000 then amL b x M else M), T', C, V, A), ((nI 0, U.2), s, g, w, (if x.length ≤ 2000 then amL b x M else M), t', c, v, a), k2, k5, ⟨b, hb, h1, h2, h3, ?_, h5, h6, ⟨rfl, ?_⟩, ⟨0, by omega, k1, k3, fun i hi => absurd hi (by omega)⟩, h9⟩⟩
    · show F.2 = t'.2.2.1
      rw [k4]
      exact h4
    · show MS b (if x.length ≤ 2000 then amL b x M else M)
      split
      · exact amL_MS hb _ _ hMS
      · exact hMS
  · obtain ⟨t', k3, k4, k5⟩ := m_run_f (P := (sc, (F.1, nI (ck n (tl q n 0) 0 false).1), S, G, Y, M, (t1, t2, t3, t4, nI 0, nI (ck n (tl q n 0) 0 false).2), C, V, A)) (U := U) (s := s) (g := g) (w := w) (m := M) (c := c) (v := v) (a := a) (d := d) (be := be) (le := le) (mk := mk) (la := la) (sz := sz) (cu := cu) (to := to) (fr := fr) (nx := nx) hMd hk hlt
    exact ⟨_, (sc, (F.1, nI (ck n (tl q n 0) 0 false).1), S, G, Y, M, (t1, t2, t3, t4, nI 0, nI (ck n (tl q n 0) 0 false).2), C, V, A), ((nI 0, U.2), s, g, w, M, t', c, v, a), c_run_f hB hk hlt, k5, ⟨b, hb, h1, h2, h3, k4.symm, h5, h6, ⟨rfl, h7'⟩, ⟨0, by omega, rfl, k3, fun i hi => absurd hi (by omega)⟩, h9⟩⟩
end RS
