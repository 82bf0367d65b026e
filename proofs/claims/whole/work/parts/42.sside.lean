/-! promise 8, side by side -/
section SS
variable {P : fP} {U : fU} {s : fA × fA × fA} {g : fG} {w : fW} {m : fM} {t : fR} {c : fA × fA × fA} {v : fA × fA} {a : fA × Int32} {d : Nat}
theorem m_side_bad {n p : Nat} (hn : gcl g = nI n) (hp : gsd g = nI p) (h1 : 1 ≤ n) (h2 : n < 2 ^ 30) (h3 : 1 ≤ p) (h4 : p < 2 ^ 30) {x y : Int32} (hb : ¬ ((¬ x < 0 ∧ ¬ nI n ≤ x) ∧ (¬ y < 0 ∧ ¬ nI p ≤ y))) : mj_C (d + 3) nX9_side [.ref 35, .int x, .int y] (fbP P (mdZ U s g w m t c v a)) (some (.int BD)) (fbP P (mdZ (nI 0, U.2) s g w m t c v a)) := by
  refine mj_C.of rfl rfl rfl ?_
  refine mj_b0 40 rfl ?_
  refine mj_hq (h' := fbP P (mdZ (nI 0, U.2) s g w m t c v a)) rfl ?_
  refine mj_cV rfl rfl rfl rfl rfl rfl (m_isCell hn h1 h2 x) ?_
  refine mj_b0 40 rfl ?_
  by_cases q : (¬ x < 0 ∧ ¬ nI n ≤ x)
  · refine mj_brf (fun z => vB_0.mp z q) ?_
    refine mj_b0 40 rfl ?_
    refine mj_cV rfl rfl rfl rfl rfl rfl (m_isSide hp h3 h4 y) ?_
    refine mj_b0 40 rfl ?_
    refine mj_brf (fun z => z (vB_0.mpr (fun q2 => hb ⟨q, q2⟩))) ?_
    refine mj_b0 40 rfl ?_
    exact mj_end rfl rfl trivial ⟨rfl, rfl⟩
  · refine mj_brt (vB_0.mpr q) ?_
    refine mj_b0 40 rfl ?_
    exact mj_end rfl rfl trivial ⟨rfl, rfl⟩
theorem m_side_ok {n p i j : Nat} (hn : gcl g = nI n) (hp : gsd g = nI p) (h1 : 1 ≤ n) (h2 : n ≤ 400) (h3 : 1 ≤ p) (h4 : p ≤ 10) (hi : i < n) (hj : j < p) : mj_C (d + 3) nX9_side [.ref 35, .int (nI i), .int (nI j)] (fbP P (mdZ U s g w m t c v a)) (some (.int (gat g (i * 10 + j)))) (fbP P (mdZ (nI 0, U.2) s g w m t c v a)) := by
  have e1 : nI 10 * nI i + nI j = nI (i * 10 + j) := by rw [pk_mul, nI_add, Nat.mul_comm]
  have e2 : (nI (i * 10 + j)).toNatClampNeg = i * 10 + j := nI_clamp (by omega)
  refine mj_C.of rfl rfl rfl ?_
  refine mj_b0 40 rfl ?_
  refine mj_hq (h' := fbP P (mdZ (nI 0, U.2) s g w m t c v a)) rfl ?_
  refine mj_cV rfl rfl rfl rfl rfl rfl (m_isCell hn h1 (by omega) (nI i)) ?_
  refine mj_b0 40 rfl ?_
  refine mj_brf (fun z => vB_0.mp z ⟨nI_pos (by omega), nI_ge hi (by omega)⟩) ?_
  refine mj_b0 40 rfl ?_
  refine mj_cV rfl rfl rfl rfl rfl rfl (m_isSide hp h3 (by omega) (nI j)) ?_
  refine mj_b0 40 rfl ?_
  refine mj_brt (fun z => vB_0.mp z ⟨nI_pos (by omega), nI_ge hj (by omega)⟩) ?_
  refine mj_b1 40 rfl (by show vp_in (nI 10 * nI i + nI j) 4000; rw [e1]; exact nI_ix (by omega) (by omega)) ?_
  refine mj_end rfl rfl trivial ⟨?_, rfl⟩
  show some (Value.int (gat g (nI 10 * nI i + nI j).toNatClampNeg)) = _
  rw [e1, e2]
end SS
section SS2
variable {sc : mj_E} {F : Int32 × Int32} {S : fA × fA × fA} {G : fG} {Y : fY} {M : fM} {T : fT} {C : fC} {V : fV} {A : fA × Int32} {Z : mj_H} {d : Nat}
theorem c_side_bad {x y : Int32} (hb : ¬ ((¬ x < 0 ∧ ¬ gcl G ≤ x) ∧ ¬ y < 0 ∧ ¬ gsd G ≤ y)) : mj_C (d + 3) nX8_side [.ref 1, .int x, .int y] (fbH sc F S G Y M T C V A Z) (some (.int BD)) (fbH sc F S G Y M T C V A Z) := by
  refine mj_C.of rfl rfl rfl ?_
  refine mj_b0 40 rfl ?_
  refine mj_cV rfl rfl rfl rfl rfl rfl (c_hasSide x y) ?_
  refine mj_b0 40 rfl ?_
  refine mj_brt (vB_0.mpr hb) ?_
  refine mj_b0 40 rfl ?_
  exact mj_end rfl rfl trivial ⟨rfl, rfl⟩
theorem c_side_ok {b i j : Nat} (hb2 : b < 22) (h : Bd b G) (hi : i < bn b) (hj : j < bp b) (hb : (¬ nI i < 0 ∧ ¬ gcl G ≤ nI i) ∧ ¬ nI j < 0 ∧ ¬ gsd G ≤ nI j) : mj_C (d + 3) nX8_side [.ref 1, .int (nI i), .int (nI j)] (fbH sc F S G Y M T C V A Z) (some (.int (gat G (i * 10 + j)))) (fbH sc F S G Y M T C V A Z) := by
  refine mj_C.of rfl rfl rfl ?_
  refine mj_b0 40 rfl ?_
  refine mj_cV rfl rfl rfl rfl rfl rfl (c_hasSide (nI i) (nI j)) ?_
  refine mj_b0 40 rfl ?_
  refine mj_brf (fun z => vB_0.mp z hb) ?_
  refine mj_b0 40 rfl ?_
  refine mj_cV rfl rfl rfl rfl rfl rfl (c_beyond hb2 h hi hj) ?_
  refine mj_b0 40 rfl ?_
  exact mj_end rfl rfl trivial ⟨rfl, rfl⟩
theorem s_side (x y : Int32) : Sim (d + 3) nX8_side nX9_side [.int x, .int y] := by
  intro P z h
  obtain ⟨U, s, g, w, m, t, c, v, a⟩ := z
  obtain ⟨sc, F, S, G, Y, M, T, C, V, A⟩ := P
  obtain ⟨b, hb, h1, h2, h3⟩ := id h
  have t0 := tb0 hb
  have g1 : gcl G = nI (bn b) := h1.2.2.1
  have g2 : gsd G = nI (bp b) := h1.1
  have g3 : gcl g = nI (bn b) := h2.2.2.1
  have g4 : gsd g = nI (bp b) := h2.1
  by_cases q : (¬ x < 0 ∧ ¬ nI (bn b) ≤ x) ∧ ¬ y < 0 ∧ ¬ nI (bp b) ≤ y
  · rcases pk_ix x (n := bn b) (by omega) with z | z | ⟨i, hi, rfl⟩
    · exact absurd z q.1.1
    · exact absurd z q.1.2
    · rcases pk_ix y (n := bp b) (by omega) with z | z | ⟨j, hj, rfl⟩
      · exact absurd z q.2.1
      · exact absurd z q.2.2
      · have e : gat G (i * 10 + j) = gat g (i * 10 + j) := by
          have k1 : gat G (i * 10 + j) = nv (tAt b i j) := h1.at hi hj
          have k2 : gat g (i * 10 + j) = nv (tAt b i j) := h2.at hi hj
          rw [k1, k2]
        have hc := c_side_ok (d := d) (sc := sc) (F := F) (S := S) (G := G) (Y := Y) (M := M) (T := T) (C := C) (V := V) (A := A) (Z := mdz (U, s, g, w, m, t, c, v, a)) hb h1 hi hj (by rw [g1, g2]; exact q)
        rw [e] at hc
        exact ⟨gat g (i * 10 + j), (sc, F, S, G, Y, M, T, C, V, A), ((nI 0, U.2), s, g, w, m, t, c, v, a), hc, m_side_ok g3 g4 (by omega) (by omega) (by omega) (by omega) hi hj, h.thrown⟩
  · exact ⟨BD, (sc, F, S, G, Y, M, T, C, V, A), ((nI 0, U.2), s, g, w, m, t, c, v, a), c_side_bad (by rw [g1, g2]; exact q), m_side_bad g3 g4 (by omega) (by omega) (by omega) (by omega) q, h.thrown⟩
end SS2
