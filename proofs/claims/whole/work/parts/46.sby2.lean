/-! promise 9, side by side: the calls -/
section SB2
variable {sc : mj_E} {F : Int32 × Int32} {S : fA × fA × fA} {G : fG} {Y : fY} {M : fM} {T : fT} {C : fC} {V : fV} {A : fA × Int32} {Z : mj_H} {d : Nat}
variable {P : fP} {U : fU} {s : fA × fA × fA} {g : fG} {w : fW} {m : fM} {t : fR} {c : fA × fA × fA} {v : fA × fA} {a : fA × Int32}
theorem c_by_bad {x y : Int32} (hb : ¬ ((¬ x < 0 ∧ ¬ gcl G ≤ x) ∧ ¬ y < 0 ∧ ¬ gcl G ≤ y)) : mj_C (d + 3) nX8_by [.ref 1, .int x, .int y] (fbH sc F S G Y M T C V A Z) (some (.int BD)) (fbH sc F S G Y M T C V A Z) := by
  refine mj_C.of rfl rfl rfl ?_
  refine mj_b0 40 rfl ?_
  refine mj_cV rfl rfl rfl rfl rfl rfl (c_has x) ?_
  refine mj_b0 40 rfl ?_
  by_cases q : (¬ x < 0 ∧ ¬ gcl G ≤ x)
  · refine mj_brf (fun z => vB_0.mp z q) ?_
    refine mj_b0 40 rfl ?_
    refine mj_cV rfl rfl rfl rfl rfl rfl (c_has y) ?_
    refine mj_b0 40 rfl ?_
    refine mj_brt (vB_0.mpr (fun q2 => hb ⟨q, q2⟩)) ?_
    refine mj_b0 40 rfl ?_
    exact mj_end rfl rfl trivial ⟨rfl, rfl⟩
  · refine mj_brt (vB_0.mpr q) ?_
    refine mj_b0 40 rfl ?_
    exact mj_end rfl rfl trivial ⟨rfl, rfl⟩
theorem c_by_ok {b i : Nat} {y : Int32} (hb : b < 22) (h : Bd b G) (hi : i < bn b) (q1 : ¬ nI i < 0 ∧ ¬ gcl G ≤ nI i) (q2 : ¬ y < 0 ∧ ¬ gcl G ≤ y) : mj_C (d + 3) nX8_by [.ref 1, .int (nI i), .int y] (fbH sc F S G Y M T C V A Z) (some (.int (sdTo (fun q => gat G (i * 10 + q)) y (bp b) 0))) (fbH sc F S G Y M T C V A Z) := by
  refine mj_C.of rfl rfl rfl ?_
  refine mj_b0 40 rfl ?_
  refine mj_cV rfl rfl rfl rfl rfl rfl (c_has (nI i)) ?_
  refine mj_b0 40 rfl ?_
  refine mj_brf (fun z => vB_0.mp z q1) ?_
  refine mj_b0 40 rfl ?_
  refine mj_cV rfl rfl rfl rfl rfl rfl (c_has y) ?_
  refine mj_b0 40 rfl ?_
  refine mj_brf (fun z => vB_0.mp z q2) ?_
  refine mj_b0 40 rfl ?_
  refine mj_cV rfl rfl rfl rfl rfl rfl (c_sideTo hb h hi (fun z => q2.1 (by rw [z]; decide))) ?_
  refine mj_b0 40 rfl ?_
  exact mj_end rfl rfl trivial ⟨rfl, rfl⟩
theorem m_by_bad {n : Nat} (hn : gcl g = nI n) (h1 : 1 ≤ n) (h2 : n < 2 ^ 30) {x y : Int32} (hb : ¬ ((¬ x < 0 ∧ ¬ nI n ≤ x) ∧ (¬ y < 0 ∧ ¬ nI n ≤ y))) : mj_C (d + 3) nX9_by [.ref 35, .int x, .int y] (fbP P (mdZ U s g w m t c v a)) (some (.int BD)) (fbP P (mdZ (nI 0, U.2) s g w m t c v a)) := by
  refine mj_C.of rfl rfl rfl ?_
  refine mj_b0 40 rfl ?_
  refine mj_hq (h' := fbP P (mdZ (nI 0, U.2) s g w m t c v a)) rfl ?_
  refine mj_cV rfl rfl rfl rfl rfl rfl (m_isCell hn h1 h2 x) ?_
  refine mj_b0 40 rfl ?_
  by_cases q : (¬ x < 0 ∧ ¬ nI n ≤ x)
  · refine mj_brf (fun z => vB_0.mp z q) ?_
    refine mj_b0 40 rfl ?_
    refine mj_cV rfl rfl rfl rfl rfl rfl (m_isCell hn h1 h2 y) ?_
    refine mj_b0 40 rfl ?_
    refine mj_brf (fun z => z (vB_0.mpr (fun q2 => hb ⟨q, q2⟩))) ?_
    refine mj_b0 40 rfl ?_
    exact mj_end rfl rfl trivial ⟨rfl, rfl⟩
  · refine mj_brt (vB_0.mpr q) ?_
    refine mj_b0 40 rfl ?_
    exact mj_end rfl rfl trivial ⟨rfl, rfl⟩
theorem m_by_ok {n p i : Nat} {y : Int32} (hn : gcl g = nI n) (h1 : 1 ≤ n) (h2 : n ≤ 400) (hp : p ≤ 10) (hsd : gsd g = nI p) (hi : i < n) (q2 : ¬ y < 0 ∧ ¬ nI n ≤ y) : mj_C (d + 3) nX9_by [.ref 35, .int (nI i), .int y] (fbP P (mdZ U s g w m t c v a)) (some (.int (sdTo (fun q => gat g (i * 10 + q)) y p 0))) (fbP P (mdZ (nI 0, U.2) s g w m t c v a)) := by
  refine mj_C.of rfl rfl rfl ?_
  refine mj_b0 40 rfl ?_
  refine mj_hq (h' := fbP P (mdZ (nI 0, U.2) s g w m t c v a)) rfl ?_
  refine mj_cV rfl rfl rfl rfl rfl rfl (m_isCell hn h1 (by omega) (nI i)) ?_
  refine mj_b0 40 rfl ?_
  refine mj_brf (fun z => vB_0.mp z ⟨nI_pos (by omega), nI_ge hi (by omega)⟩) ?_
  refine mj_b0 40 rfl ?_
  refine mj_cV rfl rfl rfl rfl rfl rfl (m_isCell hn h1 (by omega) y) ?_
  refine mj_b0 40 rfl ?_
  refine mj_brt (fun z => vB_0.mp z q2) ?_
  refine mj_b0 40 rfl ?_
  refine mj_cV rfl rfl rfl rfl rfl rfl (m_byOf hp (by omega) hsd y) ?_
  refine mj_b0 40 rfl ?_
  exact mj_end rfl rfl trivial ⟨rfl, rfl⟩
theorem s_by (x y : Int32) : Sim (d + 3) nX8_by nX9_by [.int x, .int y] := by
  intro P z h
  obtain ⟨U, s, g, w, m, t, c, v, a⟩ := z
  obtain ⟨sc, F, S, G, Y, M, T, C, V, A⟩ := P
  obtain ⟨b, hb, h1, h2, h3⟩ := id h
  have t0 := tb0 hb
  have g1 : gcl G = nI (bn b) := h1.2.2.1
  have g2 : gsd G = nI (bp b) := h1.1
  have g3 : gcl g = nI (bn b) := h2.2.2.1
  have g4 : gsd g = nI (bp b) := h2.1
  by_cases q : (¬ x < 0 ∧ ¬ nI (bn b) ≤ x) ∧ ¬ y < 0 ∧ ¬ nI (bn b) ≤ y
  · rcases pk_ix x (n := bn b) (by omega) with z | z | ⟨i, hi, rfl⟩
    · exact absurd z q.1.1
    · exact absurd z q.1.2
    · have e : sdTo (fun q => gat G (i * 10 + q)) y (bp b) 0 = sdTo (fun q => gat g (i * 10 + q)) y (bp b) 0 := sdTo_cong (bp b) 0 (bp b) (by omega) (fun j hj => by
        have k1 : gat G (i * 10 + j) = nv (tAt b i j) := h1.at hi hj
        have k2 : gat g (i * 10 + j) = nv (tAt b i j) := h2.at hi hj
        rw [k1, k2])
      have hc := c_by_ok (d := d) (sc := sc) (F := F) (S := S) (G := G) (Y := Y) (M := M) (T := T) (C := C) (V := V) (A := A) (Z := mdz (U, s, g, w, m, t, c, v, a)) (y := y) hb h1 hi (by rw [g1]; exact q.1) (by rw [g1]; exact q.2)
      rw [e] at hc
      exact ⟨_, (sc, F, S, G, Y, M, T, C, V, A), ((nI 0, U.2), s, g, w, m, t, c, v, a), hc, m_by_ok g3 (by omega) (by omega) (by omega) g4 hi q.2, h.thrown⟩
  · exact ⟨BD, (sc, F, S, G, Y, M, T, C, V, A), ((nI 0, U.2), s, g, w, m, t, c, v, a), c_by_bad (by rw [g1]; exact q), m_by_bad g3 (by omega) (by omega) q, h.thrown⟩
end SB2
