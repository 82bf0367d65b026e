/-! promises 2 and 3, side by side: the two -/
theorem lane3 {l : Int32} (h : ¬ l < 0 ∧ ¬ nI 2 < l) : l = nI 0 ∨ l = nI 1 ∨ l = nI 2 := by
  rcases pk_ix l (n := 3) (by omega) with q | q | ⟨j, hj, rfl⟩
  · exact absurd q h.1
  · exfalso
    have h2 := h.2
    rw [Int32.lt_iff_toInt_lt, nI_toInt (by omega)] at h2
    rw [Int32.le_iff_toInt_le, nI_toInt (by omega)] at q
    omega
  · rcases (show j = 0 ∨ j = 1 ∨ j = 2 by omega) with rfl | rfl | rfl
    · exact Or.inl rfl
    · exact Or.inr (Or.inl rfl)
    · exact Or.inr (Or.inr rfl)
theorem ShR.lay {it ln sz mln mn mit : fA} {k n : Nat} {l : Int32} (hk : k < 8) (hn : n ≤ 60) (hl : l = nI 0 ∨ l = nI 1 ∨ l = nI 2) (h : ShR (it, ln, sz) (mln, mn, mit)) : ShR (fun q => if k * 60 ≤ q ∧ q < k * 60 + n then nI 0 else it q, upd ln k l, upd sz k (nI n)) (upd mln k l, upd mn k (nI n), rf mit (k * 60) 60 (nI 0)) := by
  intro j hj
  obtain ⟨h1, h2, n2, h3, h4, h5, h6⟩ := h j hj
  show upd ln k _ j = upd mln k _ j ∧ (upd mln k _ j = _ ∨ upd mln k _ j = _ ∨ upd mln k _ j = _ ∨ upd mln k _ j = _) ∧ ∃ n2, n2 ≤ 60 ∧ upd sz k _ j = nI n2 ∧ upd mn k _ j = nI n2 ∧ (upd mln k _ j ≠ _ → ∀ i, i < n2 → (if k * 60 ≤ j * 60 + i ∧ j * 60 + i < k * 60 + n then nI 0 else it (j * 60 + i)) = (if k * 60 ≤ j * 60 + i ∧ j * 60 + i < k * 60 + 60 then nI 0 else mit (j * 60 + i)))
  by_cases e : j = k
  · subst e
    rw [pk_us, pk_us, pk_us, pk_us]
    exact ⟨rfl, Or.inr hl, n, hn, rfl, rfl, fun _ i hi => by rw [if_pos (by omega), if_pos (by omega)]⟩
  · rw [pk_un e, pk_un e, pk_un e, pk_un e]
    refine ⟨h1, h2, n2, h3, h4, h5, fun q i hi => ?_⟩
    rw [if_neg (by omega), if_neg (by omega)]
    exact h6 q i hi
theorem ShR.set {it ln sz mln mn mit : fA} {k i : Nat} {x : Int32} (hi : i < 60) (h : ShR (it, ln, sz) (mln, mn, mit)) : ShR (upd it (k * 60 + i) x, ln, sz) (mln, mn, upd mit (k * 60 + i) x) := by
  intro j hj
  obtain ⟨h1, h2, n2, h3, h4, h5, h6⟩ := h j hj
  refine ⟨h1, h2, n2, h3, h4, h5, fun q i2 hi2 => ?_⟩
  show upd it _ x _ = upd mit _ x _
  by_cases e : j * 60 + i2 = k * 60 + i
  · rw [e, pk_us, pk_us]
  · rw [pk_un e, pk_un e]
    exact h6 q i2 hi2
theorem eq87 {x : Int32} : (¬ x < 0 ∧ ¬ nI 8 ≤ x) ↔ (¬ x < 0 ∧ ¬ 7 < x) := by
  rcases ix8 x with h | ⟨j, hj, rfl⟩
  · exact ⟨fun q => absurd q (no8 h), fun q => absurd q (no7 h)⟩
  · exact ⟨fun _ => ok7 hj, fun _ => ok8 hj⟩
section SSh
variable {d : Nat}
theorem s_sheet (x l n : Int32) : Sim (d + 3) nX8_sheet nX9_sheet [.int x, .int l, .int n] := by
  intro P z h
  obtain ⟨U, s, g, w, m, t, c, v, a⟩ := z
  obtain ⟨sc, F, S, G, Y, M, T, C, V, A⟩ := P
  by_cases hv : (¬ x < 0 ∧ ¬ nI 8 ≤ x) ∧ (¬ l < 0 ∧ ¬ nI 2 < l) ∧ n ≤ nI 60
  · obtain ⟨b, hb, h1, h2, h3, h4, h5, h6⟩ := id h
    obtain ⟨q1, q2, q3⟩ := hv
    rcases ix8 x with q | ⟨k, hk, rfl⟩
    · exact absurd q1 (no8 q)
    obtain ⟨it, ln, sz⟩ := S
    obtain ⟨mln, mn, mit⟩ := s
    rcases pk_ix n (n := 61) (by omega) with q | q | ⟨j, hj, rfl⟩
    · exact ⟨_, (sc, (nI 4, F.2), (it, ln, sz), G, Y, M, T, C, V, A), ((nI 0, nI 4), (mln, mn, mit), g, w, m, t, c, v, a), c_sheet_neg hk q2 q3 q, m_sheet_neg hk q2 q3 q, ⟨b, hb, h1, h2, rfl, h4, h5, h6⟩⟩
    · exfalso
      rw [Int32.le_iff_toInt_le, nI_toInt (by omega)] at q q3
      omega
    · exact ⟨_, (sc, (nI 0, F.2), _, G, Y, M, T, C, V, A), ((nI 0, nI 0), _, g, w, m, t, c, v, a), c_sheet_ok hk q2 (by omega), m_sheet_ok hk q2 (by omega), ⟨b, hb, h1, h2, rfl, h4, ShR.lay hk (by omega) (lane3 q2) h5, h6⟩⟩
  · exact ⟨BD, (sc, F, S, G, Y, M, T, C, V, A), ((nI 0, U.2), s, g, w, m, t, c, v, a), c_sheet_bad hv, m_sheet_bad (by rw [← eq87]; exact hv), h.thrown⟩
theorem s_set (x i y : Int32) : Sim (d + 3) nX8_set nX9_set [.int x, .int i, .int y] := by
  intro P z h
  obtain ⟨U, s, g, w, m, t, c, v, a⟩ := z
  obtain ⟨sc, F, S, G, Y, M, T, C, V, A⟩ := P
  rcases ix8 x with hx | ⟨k, hk, rfl⟩
  · exact ⟨BD, (sc, F, S, G, Y, M, T, C, V, A), ((nI 0, U.2), s, g, w, m, t, c, v, a), c_set_bad hx, m_set_bad hx, h.thrown⟩
  · obtain ⟨b, hb, h1, h2, h3, h4, h5, h6⟩ := id h
    obtain ⟨it, ln, sz⟩ := S
    obtain ⟨mln, mn, mit⟩ := s
    obtain ⟨a1, a2, n, a3, a4, a5, a6⟩ := h5 k hk
    have a1' : ln k = mln k := a1
    have a4' : sz k = nI n := a4
    have a5' : mn k = nI n := a5
    have a2' : mln k = -(nI 1) ∨ mln k = nI 0 ∨ mln k = nI 1 ∨ mln k = nI 2 := a2
    by_cases q : mln k = -(nI 1)
    · exact ⟨_, (sc, (nI 1, F.2), (it, ln, sz), G, Y, M, T, C, V, A), ((nI 0, nI 1), (mln, mn, mit), g, w, m, t, c, v, a), c_set_null hk (show ln k = _ from Eq.trans a1 q), m_set_null hk q, ⟨b, hb, h1, h2, rfl, h4, h5, h6⟩⟩
    · have q' : ln k ≠ -(nI 1) := fun z => q (Eq.trans a1.symm z)
      have hl : mln k = nI 0 ∨ mln k = nI 1 ∨ mln k = nI 2 := a2'.resolve_left q
      have hl' : ln k = nI 0 ∨ ln k = nI 1 ∨ ln k = nI 2 := by rw [a1']; exact hl
      have bad : (i < 0 ∨ nI n ≤ i) → ∃ r P' z', mj_C (d + 3) nX8_set (.ref 1 :: [.int (nI k), .int i, .int y]) (fbP (sc, F, (it, ln, sz), G, Y, M, T, C, V, A) (mdz (U, (mln, mn, mit), g, w, m, t, c, v, a))) (some (.int r)) (fbP P' (mdz (U, (mln, mn, mit), g, w, m, t, c, v, a))) ∧ mj_C (d + 3) nX9_set (.ref 35 :: [.int (nI k), .int i, .int y]) (fbP P' (mdz (U, (mln, mn, mit), g, w, m, t, c, v, a))) (some (.int r)) (fbP P' (mdz z')) ∧ Rel P' z' := by
        intro hbd
        refine ⟨_, (sc, (nI 2, F.2), (it, ln, sz), G, Y, M, T, C, V, A), ((nI 0, nI 2), (mln, mn, mit), g, w, m, t, c, v, a), c_set_place hk q' ?_, m_set_place hk (lane4 a2' q) a5' a3 hbd, ⟨b, hb, h1, h2, rfl, h4, h5, h6⟩⟩
        show ¬ (¬ i < 0 ∧ ¬ nI 1 < 0 ∧ ¬ sz k < i ∧ ¬ sz k - i < nI 1)
        rw [a4']
        rintro ⟨z1, z2, z3, z4⟩
        rcases hbd with z | z
        · exact z1 z
        · obtain ⟨j, hj, rfl⟩ := nI_of z1
          have e1 : n ≤ j := (nI_leI (by omega) hj).mp z
          have e2 : ¬ n < j := fun z => z3 ((nI_ltI (by omega) hj).mpr z)
          have e3 : n = j := by omega
          subst e3
          rw [pk_sub (Nat.le_refl n), Nat.sub_self] at z4
          exact z4 (by decide)
      rcases pk_ix i (n := n) (by omega) with z | z | ⟨j, hj, rfl⟩
      · exact bad (Or.inl z)
      · exact bad (Or.inr z)
      · have hm := m_set_ok (d := d) (P := (sc, (nI 0, F.2), (upd it (k * 60 + j) (nar (ln k) y), ln, sz), G, Y, M, T, C, V, A)) (U := U) (ln := mln) (mn := mn) (it := mit) (g := g) (w := w) (m := m) (t := t) (c := c) (v := v) (a := a) (y := y) hk hl a5' a3 hj
        rw [← a1'] at hm
        refine ⟨_, (sc, (nI 0, F.2), (upd it (k * 60 + j) (nar (ln k) y), ln, sz), G, Y, M, T, C, V, A), ((nI 0, nI 0), (mln, mn, upd mit (k * 60 + j) (nar (ln k) y)), g, w, m, t, c, v, a), c_set_ok hk (by omega) hl' q' ?_, hm, ⟨b, hb, h1, h2, rfl, h4, ShR.set (by omega) h5, h6⟩⟩
        rw [a4']
        refine ⟨nI_pos (by omega), by decide, nI_nlt (by omega) (by omega), ?_⟩
        rw [pk_sub (by omega)]
        exact nI_nlt (by omega) (by omega)
end SSh
