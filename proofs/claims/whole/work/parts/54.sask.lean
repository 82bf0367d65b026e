section AM
variable {P : fP} {U : fU} {s : fA × fA × fA} {g : fG} {w : fW} {m : fM} {t : fR} {c : fA × fA × fA} {v : fA × fA} {d : Nat}
theorem m_begins {f : fA} {n : Nat} (hn : n < 16) (x : Int32) : mj_C (d + 1) nX9_begins [.ref 35, .int x] (fbP P (mdZ U s g w m t c v (f, nI n))) none (fbP P (mdZ U s g w m t c v (upd f n x, nI (n + 1)))) := by
  have e1 : (nI n).toNatClampNeg = n := nI_clamp (by omega)
  refine mj_C.of rfl rfl rfl ?_
  refine mj_b0 40 rfl ?_
  refine mj_brf (show ¬ nI 16 ≤ nI n from nI_ge hn (by omega)) ?_
  refine mj_b1 40 rfl (nI_ix hn (by omega)) ?_
  refine mj_end rfl rfl trivial ⟨rfl, ?_⟩
  exact Eq.trans (b := fbP P (mdZ U s g w m t c v (upd f (nI n).toNatClampNeg x, nI n + nI 1))) rfl (by rw [e1, nI_add])
theorem m_pairedSize {b x n : Nat} {f : fA} (hb : b < 22) (h : Bd b g) (hx : x < bn b) (hn : n < 10) : mj_C (d + 2) nX9_pairedSize [.ref 35, .int (nI x)] (fbP P (mdZ U s g w m t c v (f, nI n))) (some (.int (nI (tRo b x) + nv (tFp b x) + nv (tOp b x)))) (fbP P (mdZ U s g w m t c v (enL f n [nI 12, nI 10], nI (n + 2)))) := by
  have t0 := tb0 hb
  have e1 : (nI x).toNatClampNeg = x := nI_clamp (by omega)
  refine mj_C.of rfl rfl rfl ?_
  refine mj_b0 40 rfl ?_
  refine mj_cV rfl rfl rfl rfl rfl rfl (m_begins (show n < 16 by omega) (nI 12)) ?_
  refine mj_b0 40 rfl ?_
  refine mj_cV rfl rfl rfl rfl rfl rfl (m_begins (show n + 1 < 16 by omega) (nI 10)) ?_
  have hi : vp_in (nI x) 400 := nI_ix (show x < 400 by omega) (by omega)
  refine mj_b1 40 rfl (⟨⟨hi, hi⟩, hi⟩) ?_
  rw [e1, bd_ro h hx, bd_fp h hx, bd_op h hx]
  exact mj_end rfl rfl trivial ⟨rfl, rfl⟩
theorem m_markOf {b x n k : Nat} {f : fA} (hb : b < 22) (h : Bd b g) (hx : x < bn b) (hn : n < 8) (hk : k ≤ 3) : mj_C (d + 3) nX9_markOf [.ref 35, .int (nI x), .int (nI k)] (fbP P (mdZ U s g w m t c v (f, nI n))) (some (.int (akR b x 1 k).1)) (fbP P (mdZ U s g w m t c v (enL f n (akR b x 1 k).2, nI (n + (akR b x 1 k).2.length)))) := by
  refine mj_C.of rfl rfl rfl ?_
  refine mj_b0 40 rfl ?_
  rcases (show k = 0 ∨ k = 1 ∨ k = 2 ∨ k = 3 by omega) with rfl | rfl | rfl | rfl
  · refine mj_brt (show nI 0 = 0 by decide) ?_
    refine mj_b0 40 rfl ?_
    refine mj_cV rfl rfl rfl rfl rfl rfl (m_begins (show n < 16 by omega) (nI 20)) ?_
    refine mj_b0 40 rfl ?_
    refine mj_brt (show ¬ nI 0 = nI 1 by decide) ?_
    refine mj_b0 40 rfl ?_
    refine mj_brt (show ¬ nI 0 = nI 2 by decide) ?_
    refine mj_b0 40 rfl ?_
    refine mj_brt (show ¬ nI 0 = nI 3 by decide) ?_
    refine mj_b0 40 rfl ?_
    exact mj_end rfl rfl trivial ⟨rfl, rfl⟩
  · refine mj_brf (show ¬ nI 1 = 0 by decide) ?_
    refine mj_b0 40 rfl ?_
    refine mj_cV rfl rfl rfl rfl rfl rfl (m_begins (show n < 16 by omega) (nI 21)) ?_
    refine mj_b0 40 rfl ?_
    refine mj_cV rfl rfl rfl rfl rfl rfl (m_begins (show n + 1 < 16 by omega) (nI 20)) ?_
    refine mj_b0 40 rfl ?_
    refine mj_brf (show ¬ ¬ nI 1 = nI 1 by decide) ?_
    refine mj_b0 40 rfl ?_
    exact mj_end rfl rfl trivial ⟨rfl, rfl⟩
  · refine mj_brf (show ¬ nI 2 = 0 by decide) ?_
    refine mj_b0 40 rfl ?_
    refine mj_cV rfl rfl rfl rfl rfl rfl (m_begins (show n < 16 by omega) (nI 22)) ?_
    refine mj_b0 40 rfl ?_
    refine mj_cV rfl rfl rfl rfl rfl rfl (m_begins (show n + 1 < 16 by omega) (nI 20)) ?_
    refine mj_b0 40 rfl ?_
    refine mj_brt (show ¬ nI 2 = nI 1 by decide) ?_
    refine mj_b0 40 rfl ?_
    refine mj_brf (show ¬ ¬ nI 2 = nI 2 by decide) ?_
    refine mj_b0 40 rfl ?_
    refine mj_cV rfl rfl rfl rfl rfl rfl (m_pairedSize hb h hx (show n + 2 < 10 by omega)) ?_
    refine mj_b0 40 rfl ?_
    exact mj_end rfl rfl trivial ⟨rfl, rfl⟩
  · refine mj_brf (show ¬ nI 3 = 0 by decide) ?_
    refine mj_b0 40 rfl ?_
    refine mj_cV rfl rfl rfl rfl rfl rfl (m_begins (show n < 16 by omega) (nI 23)) ?_
    refine mj_b0 40 rfl ?_
    refine mj_cV rfl rfl rfl rfl rfl rfl (m_begins (show n + 1 < 16 by omega) (nI 20)) ?_
    refine mj_b0 40 rfl ?_
    refine mj_brt (show ¬ nI 3 = nI 1 by decide) ?_
    refine mj_b0 40 rfl ?_
    refine mj_brt (show ¬ nI 3 = nI 2 by decide) ?_
    refine mj_b0 40 rfl ?_
    refine mj_brf (show ¬ ¬ nI 3 = nI 3 by decide) ?_
    refine mj_b0 40 rfl ?_
    exact mj_end rfl rfl trivial ⟨rfl, rfl⟩
theorem m_sizeBy {b x k : Nat} {f : fA} (hb : b < 22) (h : Bd b g) (hx : x < bn b) (hk : k ≤ 3) (h1 : k = 1 → chn b x (bp b) + 3 = bp b) : mj_C (d + 4) nX9_sizeBy [.ref 35, .int (nI x), .int (nI k)] (fbP P (mdZ U s g w m t c v (f, nI 0))) (some (.int (akR b x 0 k).1)) (fbP P (mdZ U s g w m t c v (enL f 0 (akR b x 0 k).2, nI (akR b x 0 k).2.length))) := by
  have t0 := tb0 hb
  have e1 : (nI x).toNatClampNeg = x := nI_clamp (by omega)
  have hi : vp_in (nI x) 400 := nI_ix (show x < 400 by omega) (by omega)
  refine mj_C.of rfl rfl rfl ?_
  refine mj_b0 40 rfl ?_
  rcases (show k = 0 ∨ k = 1 ∨ k = 2 ∨ k = 3 by omega) with rfl | rfl | rfl | rfl
  · refine mj_brt (show ¬ nI 0 = nI 2 by decide) ?_
    refine mj_b0 40 rfl ?_
    refine mj_brt (show nI 0 = 0 by decide) ?_
    refine mj_b0 40 rfl ?_
    refine mj_cV rfl rfl rfl rfl rfl rfl (m_begins (show 0 < 16 by omega) (nI 10)) ?_
    refine mj_b0 40 rfl ?_
    refine mj_brt (show ¬ nI 0 = nI 1 by decide) ?_
    refine mj_b0 40 rfl ?_
    refine mj_brt (show ¬ nI 0 = nI 3 by decide) ?_
    refine mj_b1 40 rfl (hi) ?_
    rw [e1, bd_ro h hx]
    exact mj_end rfl rfl trivial ⟨rfl, rfl⟩
  · refine mj_brt (show ¬ nI 1 = nI 2 by decide) ?_
    refine mj_b0 40 rfl ?_
    refine mj_brf (show ¬ nI 1 = 0 by decide) ?_
    refine mj_b0 40 rfl ?_
    refine mj_cV rfl rfl rfl rfl rfl rfl (m_begins (show 0 < 16 by omega) (nI 11)) ?_
    refine mj_b0 40 rfl ?_
    refine mj_cV rfl rfl rfl rfl rfl rfl (m_begins (show 1 < 16 by omega) (nI 10)) ?_
    refine mj_b0 40 rfl ?_
    refine mj_brf (show ¬ ¬ nI 1 = nI 1 by decide) ?_
    refine mj_b1 40 rfl (hi) ?_
    rw [e1, bd_ro h hx, bd_sd h]
    exact mj_end rfl rfl trivial ⟨by
      show some (Value.int (nI (tRo b x) + nI (bp b) - nI 3)) = some (Value.int (nI (tRo b x) + nI (chn b x (bp b))))
      rw [nI_add, pk_sub (by omega), nI_add]
      have := h1 rfl
      rw [show tRo b x + bp b - 3 = tRo b x + chn b x (bp b) by omega], rfl⟩
  · refine mj_brf (show ¬ ¬ nI 2 = nI 2 by decide) ?_
    refine mj_b0 40 rfl ?_
    refine mj_cV rfl rfl rfl rfl rfl rfl (m_pairedSize hb h hx (show 0 < 10 by omega)) ?_
    exact mj_end rfl rfl trivial ⟨rfl, rfl⟩
  · refine mj_brt (show ¬ nI 3 = nI 2 by decide) ?_
    refine mj_b0 40 rfl ?_
    refine mj_brf (show ¬ nI 3 = 0 by decide) ?_
    refine mj_b0 40 rfl ?_
    refine mj_cV rfl rfl rfl rfl rfl rfl (m_begins (show 0 < 16 by omega) (nI 13)) ?_
    refine mj_b0 40 rfl ?_
    refine mj_cV rfl rfl rfl rfl rfl rfl (m_begins (show 1 < 16 by omega) (nI 10)) ?_
    refine mj_b0 40 rfl ?_
    refine mj_brt (show ¬ nI 3 = nI 1 by decide) ?_
    refine mj_b0 40 rfl ?_
    refine mj_brf (show ¬ ¬ nI 3 = nI 3 by decide) ?_
    refine mj_b1 40 rfl (hi) ?_
    rw [e1, bd_ro h hx]
    refine mj_cV rfl rfl rfl rfl rfl rfl (m_markOf (n := 2) (k := 3) hb h hx (by omega) (by omega)) ?_
    refine mj_b0 40 rfl ?_
    exact mj_end rfl rfl trivial ⟨rfl, rfl⟩
theorem m_ask {a : fA × Int32} {b x k : Nat} (hb : b < 22) (h : Bd b g) (hx : x < bn b) (hk : k < 2) : mj_C (d + 5) nX9_ask [.ref 35, .int (nI x), .int (nI k)] (fbP P (mdZ U s g w m t c v a)) (some (.int (akR b x k (tKd b x)).1)) (fbP P (mdZ (nI 0, U.2) s g w m t c v (enL a.1 0 (akR b x k (tKd b x)).2, nI (akR b x k (tKd b x)).2.length))) := by
  refine mj_C.of rfl rfl rfl ?_
  refine mj_b0 40 rfl ?_
  refine mj_hq (h' := (fbP P (mdZ (nI 0, U.2) s g w m t c v a))) rfl ?_
  refine mj_cV rfl rfl rfl rfl rfl rfl (xm_isCell hb h (nI x)) ?_
  refine mj_b0 40 rfl ?_
  refine mj_brf (fun z => vB_0.mp z (okb hb hx)) ?_
  refine mj_b0 40 rfl ?_
  refine mj_cS rfl rfl rfl rfl (m_in32 (nI k) 0 (nI 1) (by decide) (by decide)) ?_
  refine mj_b0 40 rfl ?_
  refine mj_brt (fun z => vB_0.mp z (nin_ok (by omega) hk)) ?_
  refine mj_b0 40 rfl ?_
  refine mj_hq (h' := fbP P (mdZ (nI 0, U.2) s g w m t c v (a.1, nI 0))) rfl ?_
  rcases (show k = 0 ∨ k = 1 by omega) with rfl | rfl
  · refine mj_brf (show ¬ ¬ nI 0 = 0 by decide) ?_
    refine mj_b0 40 rfl ?_
    refine mj_cV rfl rfl rfl rfl rfl rfl (m_kindOf hb h hx) ?_
    refine mj_cV rfl rfl rfl rfl rfl rfl (m_sizeBy hb h hx (tKd_le b x) (tb9 hb hx)) ?_
    refine mj_b0 40 rfl ?_
    exact mj_end rfl rfl trivial ⟨rfl, rfl⟩
  · refine mj_brt (show ¬ nI 1 = 0 by decide) ?_
    refine mj_b0 40 rfl ?_
    refine mj_cV rfl rfl rfl rfl rfl rfl (m_kindOf hb h hx) ?_
    have k1 := m_markOf (P := P) (U := (nI 0, U.2)) (s := s) (w := w) (m := m) (t := t) (c := c) (v := v) (d := d + 1) (n := 0) (f := a.1) hb h hx (by omega) (tKd_le b x)
    rw [Nat.zero_add] at k1
    refine mj_cV rfl rfl rfl rfl rfl rfl (k1) ?_
    exact mj_end rfl rfl trivial ⟨rfl, rfl⟩
end AM
theorem enL_cong : ∀ (l : List Int32) (f f' : fA) (n : Nat), (∀ i, i < n → f i = f' i) → ∀ i, i < n + l.length → enL f n l i = enL f' n l i
  | [], f, f', n, h, i, hi => h i hi
  | x :: l, f, f', n, h, i, hi => by
    refine enL_cong l _ _ (n + 1) (fun i hi => ?_) i (by simp only [List.length_cons] at hi; omega)
    by_cases e : i = n
    · rw [e, pk_us, pk_us]
    · rw [pk_un e, pk_un e]
      exact h i (by omega)
theorem akR_len (b c w k : Nat) : (akR b c w k).2.length ≤ 4 := by
  unfold akR
  split <;> simp
section AS
variable {d : Nat}
/-- promise 33 -/
theorem s_ask (x y : Int32) : Sim (d + 8) nX8_ask nX9_ask [.int x, .int y] := by
  intro P z hr
  obtain ⟨U, s, g, w, m, t, c, v, a⟩ := z
  obtain ⟨sc, F, S, G, Y, M, T, C, V, A⟩ := P
  obtain ⟨b, hb, h1, h2, h3, h4, h5, h6, h7, h8, h9, h10, h11⟩ := id hr
  have h : Bd b G := h1
  have h' : Bd b g := h2
  by_cases q : (¬ x < 0 ∧ ¬ nI (bn b) ≤ x) ∧ (¬ y < 0 ∧ ¬ nI 1 < y)
  · rcases ixb hb x with z | ⟨j, hj, rfl⟩
    · exact absurd q.1 z
    rcases ixn y (n := 2) (by omega) with ⟨-, z⟩ | ⟨k, hk, rfl⟩
    · exact absurd q.2 (nin_no (by omega) z)
    have hm := m_ask (d := d + 3) (P := (sc, F, S, G, Y, M, T, C, V, (enL A.1 0 (akR b j k (tKd b j)).2, nI (akR b j k (tKd b j)).2.length))) (U := U) (s := s) (w := w) (m := m) (t := t) (c := c) (v := v) (a := a) hb h' hj hk
    refine ⟨_, (sc, F, S, G, Y, M, T, C, V, _), ((nI 0, U.2), s, g, w, m, t, c, v, _), c_ask hb h hj hk, hm, ⟨b, hb, h1, h2, h3, h4, h5, h6, h7, h8, h9, h10, (akR b j k (tKd b j)).2.length, ?_, rfl, rfl, ?_⟩⟩
    · have := akR_len b j k (tKd b j)
      omega
    · intro i hi
      exact enL_cong _ _ _ 0 (fun i hi => absurd hi (by omega)) i (by omega)
  · refine ⟨BD, (sc, F, S, G, Y, M, T, C, V, A), ((nI 0, U.2), s, g, w, m, t, c, v, a), ?_, ?_, hr.thrown⟩
    · refine mj_C.of rfl rfl rfl ?_
      refine mj_b0 40 rfl ?_
      refine mj_cV rfl rfl rfl rfl rfl rfl (x_has h x) ?_
      refine mj_b0 40 rfl ?_
      by_cases q1 : (¬ x < 0 ∧ ¬ nI (bn b) ≤ x)
      · refine mj_brf (fun z => vB_0.mp z q1) ?_
        refine mj_b0 40 rfl ?_
        refine mj_br (fun k1 => ?_) (fun k1 => ?_)
        · refine mj_b0 40 rfl ?_
          exact mj_end rfl rfl trivial ⟨rfl, rfl⟩
        · refine mj_b0 40 rfl ?_
          refine mj_br (fun k2 => ?_) (fun k2 => ?_)
          · exact absurd ⟨q1, k1, fun z => by
              have k3 : y ≤ nI 1 := k2
              rw [Int32.le_iff_toInt_le] at k3
              rw [Int32.lt_iff_toInt_lt] at z
              omega⟩ q
          · refine mj_b0 40 rfl ?_
            exact mj_end rfl rfl trivial ⟨rfl, rfl⟩
      · refine mj_brt (vB_0.mpr q1) ?_
        refine mj_b0 40 rfl ?_
        exact mj_end rfl rfl trivial ⟨rfl, rfl⟩
    · refine mj_C.of rfl rfl rfl ?_
      refine mj_b0 40 rfl ?_
      refine mj_hq (h' := fbP (sc, F, S, G, Y, M, T, C, V, A) (mdZ (nI 0, U.2) s g w m t c v a)) rfl ?_
      refine mj_cV rfl rfl rfl rfl rfl rfl (xm_isCell hb h' x) ?_
      refine mj_b0 40 rfl ?_
      by_cases q1 : (¬ x < 0 ∧ ¬ nI (bn b) ≤ x)
      · refine mj_brf (fun z => vB_0.mp z q1) ?_
        refine mj_b0 40 rfl ?_
        refine mj_cS rfl rfl rfl rfl (m_in32 y 0 (nI 1) (by decide) (by decide)) ?_
        refine mj_b0 40 rfl ?_
        refine mj_brf (fun z => z (vB_0.mpr (fun z2 => q ⟨q1, z2⟩))) ?_
        refine mj_b0 40 rfl ?_
        exact mj_end rfl rfl trivial ⟨rfl, rfl⟩
      · refine mj_brt (vB_0.mpr q1) ?_
        refine mj_b0 40 rfl ?_
        exact mj_end rfl rfl trivial ⟨rfl, rfl⟩
end AS
