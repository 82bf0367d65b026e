/-! promise 5, side by side -/
section SD
variable {d : Nat}
theorem ShR.drop {it ln sz mln mn mit : fA} {k : Nat} (hk : k < 8) (h : ShR (it, ln, sz) (mln, mn, mit)) : ShR (it, upd ln k (-(nI 1)), sz) (upd mln k (-(nI 1)), mn, mit) := by
  intro j hj
  obtain ⟨h1, h2, n, h3, h4, h5, h6⟩ := h j hj
  show upd ln k _ j = upd mln k _ j ∧ (upd mln k _ j = _ ∨ upd mln k _ j = _ ∨ upd mln k _ j = _ ∨ upd mln k _ j = _) ∧ ∃ n, n ≤ 60 ∧ sz j = nI n ∧ mn j = nI n ∧ (upd mln k _ j ≠ _ → _)
  by_cases e : j = k
  · subst e
    rw [pk_us, pk_us]
    exact ⟨rfl, Or.inl rfl, n, h3, h4, h5, fun q => absurd rfl q⟩
  · rw [pk_un e, pk_un e]
    exact ⟨h1, h2, n, h3, h4, h5, h6⟩
theorem s_drop (x : Int32) : Sim (d + 3) nX8_drop nX9_drop [.int x] := by
  intro P z h
  obtain ⟨U, s, g, w, m, t, c, v, a⟩ := z
  obtain ⟨sc, F, S, G, Y, M, T, C, V, A⟩ := P
  rcases ix8 x with hx | ⟨k, hk, rfl⟩
  · exact ⟨BD, (sc, F, S, G, Y, M, T, C, V, A), ((nI 0, U.2), s, g, w, m, t, c, v, a), c_drop_bad hx, m_drop_bad hx, h.thrown⟩
  · obtain ⟨b, hb, h1, h2, h3, h4, h5, h6⟩ := id h
    obtain ⟨it, ln, sz⟩ := S
    obtain ⟨mln, mn, mit⟩ := s
    obtain ⟨a1, a2, n, a3, a4, a5, a6⟩ := h5 k hk
    by_cases q : mln k = -(nI 1)
    · refine ⟨_, (sc, (nI 1, F.2), (it, ln, sz), G, Y, M, T, C, V, A), ((nI 0, nI 1), (mln, mn, mit), g, w, m, t, c, v, a), c_drop_null hk (show ln k = _ from Eq.trans a1 q), m_drop_null hk (show mln k < 0 by rw [q]; decide), ⟨b, hb, h1, h2, rfl, h4, h5, h6⟩⟩
    · have a4' : sz k = nI n := a4
      have a5' : mn k = nI n := a5
      have hc := c_drop_ok (d := d + 1) (sc := sc) (F := F) (it := it) (ln := ln) (sz := sz) (G := G) (Y := Y) (M := M) (T := T) (C := C) (V := V) (A := A) (Z := mdz (U, (mln, mn, mit), g, w, m, t, c, v, a)) hk (show ln k ≠ _ from fun z => q (Eq.trans a1.symm z))
      have hm := m_drop_ok (d := d) (P := (sc, (nI 0, F.2), (it, upd ln k (-(nI 1)), sz), G, Y, M, T, C, V, A)) (U := U) (ln := mln) (mn := mn) (it := mit) (g := g) (w := w) (m := m) (t := t) (c := c) (v := v) (a := a) hk (show 0 ≤ mln k by
        rcases a2 with z | z | z | z
        · exact absurd z q
        · have z' : mln k = nI 0 := z
          rw [z']; decide
        · have z' : mln k = nI 1 := z
          rw [z']; decide
        · have z' : mln k = nI 2 := z
          rw [z']; decide)
      rw [a4'] at hc
      rw [a5'] at hm
      exact ⟨_, (sc, (nI 0, F.2), (it, upd ln k (-(nI 1)), sz), G, Y, M, T, C, V, A), ((nI 0, nI 0), (upd mln k (-(nI 1)), mn, mit), g, w, m, t, c, v, a), hc, hm, ⟨b, hb, h1, h2, rfl, h4, h5.drop hk, h6⟩⟩
end SD
