/-! promise 15, side by side -/
theorem le_pred {n : Nat} (h1 : 1 ≤ n) (h2 : n < 2 ^ 30) (x : Int32) : (nI (n - 1) < x) ↔ (nI n ≤ x) := by
  rw [Int32.lt_iff_toInt_lt, Int32.le_iff_toInt_le, nI_toInt (by omega), nI_toInt (by omega)]
  omega
section SP
variable {P : fP} {U : fU} {s : fA × fA × fA} {g : fG} {w : fW} {m : fM} {t : fR} {c : fA × fA × fA} {v : fA × fA} {a : fA × Int32} {d : Nat}
theorem m_isCell {n : Nat} (hn : gcl g = nI n) (h1 : 1 ≤ n) (h2 : n < 2 ^ 30) (x : Int32) : mj_C (d + 2) nX9_isCell [.ref 35, .int x] (fbP P (mdZ U s g w m t c v a)) (some (.int (vB (¬ x < 0 ∧ ¬ nI n ≤ x)))) (fbP P (mdZ U s g w m t c v a)) := by
  have e : gcl g - nI 1 = nI (n - 1) := by rw [hn, pk_sub h1]
  refine mj_C.of rfl rfl rfl ?_
  refine mj_b0 40 rfl ?_
  have k := m_in32 (h := fbP P (mdZ U s g w m t c v a)) (d := d) x 0 (gcl g - nI 1) (l2 := Int64.ofNat 0) (h2 := (gcl g - nI 1).toInt64) (by decide) rfl
  rw [vB_congr (q := ¬ x < 0 ∧ ¬ nI n ≤ x) (by rw [e, le_pred h1 h2])] at k
  refine mj_cS rfl rfl rfl rfl k ?_
  exact mj_end rfl rfl (vB_01 _) ⟨rfl, rfl⟩
theorem m_isSide {n : Nat} (hn : gsd g = nI n) (h1 : 1 ≤ n) (h2 : n < 2 ^ 30) (x : Int32) : mj_C (d + 2) nX9_isSide [.ref 35, .int x] (fbP P (mdZ U s g w m t c v a)) (some (.int (vB (¬ x < 0 ∧ ¬ nI n ≤ x)))) (fbP P (mdZ U s g w m t c v a)) := by
  have e : gsd g - nI 1 = nI (n - 1) := by rw [hn, pk_sub h1]
  refine mj_C.of rfl rfl rfl ?_
  refine mj_b0 40 rfl ?_
  have k := m_in32 (h := fbP P (mdZ U s g w m t c v a)) (d := d) x 0 (gsd g - nI 1) (l2 := Int64.ofNat 0) (h2 := (gsd g - nI 1).toInt64) (by decide) rfl
  rw [vB_congr (q := ¬ x < 0 ∧ ¬ nI n ≤ x) (by rw [e, le_pred h1 h2])] at k
  refine mj_cS rfl rfl rfl rfl k ?_
  exact mj_end rfl rfl (vB_01 _) ⟨rfl, rfl⟩
theorem m_put_bad {n p : Nat} (hn : gcl g = nI n) (hp : gsd g = nI p) (h1 : 1 ≤ n) (h2 : n < 2 ^ 30) (h3 : 1 ≤ p) (h4 : p < 2 ^ 30) {x y : Int32} (hb : ¬ ((¬ x < 0 ∧ ¬ nI n ≤ x) ∧ (¬ y < 0 ∧ ¬ nI p ≤ y))) : mj_C (d + 3) nX9_put [.ref 35, .int x, .int y] (fbP P (mdZ U s g w m t c v a)) (some (.int BD)) (fbP P (mdZ (nI 0, U.2) s g w m t c v a)) := by
  refine mj_C.of rfl rfl rfl ?_
  refine mj_b0 40 rfl ?_
  refine mj_hq (h' := fbP P (mdZ (nI 0, U.2) s g w m t c v a)) rfl ?_
  refine mj_cV rfl rfl rfl rfl rfl rfl (m_isCell hn h1 h2 x) ?_
  refine mj_b0 40 rfl ?_
  by_cases q : (¬ x < 0 ∧ ¬ nI n ≤ x)
  · refine mj_brf (fun z => vB_0.mp z q) ?_
    refine mj_b0 40 rfl ?_
    refine mj_cV rfl rfl rfl rfl rfl rfl (m_isSide hp h3 h4 y) ?_
    refine mj_b0 40 rfl ?_
    refine mj_brf (fun z => z (vB_0.mpr (fun q2 => hb ⟨q, q2⟩))) ?_
    refine mj_b0 40 rfl ?_
    exact mj_end rfl rfl trivial ⟨rfl, rfl⟩
  · refine mj_brt (vB_0.mpr q) ?_
    refine mj_b0 40 rfl ?_
    exact mj_end rfl rfl trivial ⟨rfl, rfl⟩
theorem m_put_ok {n p : Nat} (hn : gcl g = nI n) (hp : gsd g = nI p) (h1 : 1 ≤ n) (h2 : n < 2 ^ 30) (h3 : 1 ≤ p) (h4 : p < 2 ^ 30) {x y : Int32} (q1 : ¬ x < 0 ∧ ¬ nI n ≤ x) (q2 : ¬ y < 0 ∧ ¬ nI p ≤ y) : mj_C (d + 3) nX9_put [.ref 35, .int x, .int y] (fbP P (mdZ U s g w m t c v a)) (some (.int (nI 1))) (fbP P (mdZ (nI 0, U.2) s g w (x, y, nI 0, nI 0) t c v a)) := by
  refine mj_C.of rfl rfl rfl ?_
  refine mj_b0 40 rfl ?_
  refine mj_hq (h' := fbP P (mdZ (nI 0, U.2) s g w m t c v a)) rfl ?_
  refine mj_cV rfl rfl rfl rfl rfl rfl (m_isCell hn h1 h2 x) ?_
  refine mj_b0 40 rfl ?_
  refine mj_brf (fun z => vB_0.mp z q1) ?_
  refine mj_b0 40 rfl ?_
  refine mj_cV rfl rfl rfl rfl rfl rfl (m_isSide hp h3 h4 y) ?_
  refine mj_b0 40 rfl ?_
  refine mj_brt (fun z => vB_0.mp z q2) ?_
  refine mj_b0 40 rfl ?_
  exact mj_end rfl rfl trivial ⟨rfl, rfl⟩
end SP
section SP2
variable {sc : mj_E} {F : Int32 × Int32} {S : fA × fA × fA} {G : fG} {Y : fY} {M : fM} {T : fT} {C : fC} {V : fV} {A : fA × Int32} {Z : mj_H} {d : Nat}
theorem c_put_bad {x y : Int32} (hb : ¬ ((¬ x < 0 ∧ ¬ gcl G ≤ x) ∧ ¬ y < 0 ∧ ¬ gsd G ≤ y)) : mj_C (d + 3) nX8_put [.ref 1, .int x, .int y] (fbH sc F S G Y M T C V A Z) (some (.int BD)) (fbH sc F S G Y M T C V A Z) := by
  refine mj_C.of rfl rfl rfl ?_
  refine mj_b0 40 rfl ?_
  refine mj_cV rfl rfl rfl rfl rfl rfl (c_hasSide x y) ?_
  refine mj_b0 40 rfl ?_
  refine mj_brf (fun z => z (vB_0.mpr hb)) ?_
  refine mj_b0 40 rfl ?_
  exact mj_end rfl rfl trivial ⟨rfl, rfl⟩
theorem c_put_ok {x y : Int32} (hb : (¬ x < 0 ∧ ¬ gcl G ≤ x) ∧ ¬ y < 0 ∧ ¬ gsd G ≤ y) : mj_C (d + 3) nX8_put [.ref 1, .int x, .int y] (fbH sc F S G Y M T C V A Z) (some (.int (nI 1))) (fbH sc F S G Y (x, y, nI 0, nI 0) T C V A Z) := by
  refine mj_C.of rfl rfl rfl ?_
  refine mj_b0 40 rfl ?_
  refine mj_cV rfl rfl rfl rfl rfl rfl (c_hasSide x y) ?_
  refine mj_b0 40 rfl ?_
  refine mj_brt (fun z => vB_0.mp z hb) ?_
  refine mj_b0 40 rfl ?_
  refine mj_cV rfl rfl rfl rfl rfl rfl (c_place x y) ?_
  refine mj_b0 40 rfl ?_
  exact mj_end rfl rfl trivial ⟨rfl, rfl⟩
theorem s_put (x y : Int32) : Sim (d + 3) nX8_put nX9_put [.int x, .int y] := by
  intro P z h
  obtain ⟨U, s, g, w, m, t, c, v, a⟩ := z
  obtain ⟨sc, F, S, G, Y, M, T, C, V, A⟩ := P
  obtain ⟨b, hb, h1, h2, h3, h4, h5, h6, h7, h8⟩ := id h
  have t0 := tb0 hb
  have g1 : gcl G = nI (bn b) := h1.2.2.1
  have g2 : gsd G = nI (bp b) := h1.1
  have g3 : gcl g = nI (bn b) := h2.2.2.1
  have g4 : gsd g = nI (bp b) := h2.1
  by_cases q : (¬ x < 0 ∧ ¬ nI (bn b) ≤ x) ∧ ¬ y < 0 ∧ ¬ nI (bp b) ≤ y
  · refine ⟨nI 1, (sc, F, S, G, Y, (x, y, nI 0, nI 0), T, C, V, A), ((nI 0, U.2), s, g, w, (x, y, nI 0, nI 0), t, c, v, a), c_put_ok (by rw [g1, g2]; exact q), m_put_ok g3 g4 (by omega) (by omega) (by omega) (by omega) q.1 q.2, ⟨b, hb, h1, h2, h3, h4, h5, h6, ⟨rfl, ?_⟩, h8⟩⟩
    rcases pk_ix x (n := bn b) (by omega) with z | z | ⟨i, hi, e1⟩
    · exact absurd z q.1.1
    · exact absurd z q.1.2
    · rcases pk_ix y (n := bp b) (by omega) with z | z | ⟨j, hj, e2⟩
      · exact absurd z q.2.1
      · exact absurd z q.2.2
      · exact ⟨i, j, hi, hj, e1, e2⟩
  · exact ⟨BD, (sc, F, S, G, Y, M, T, C, V, A), ((nI 0, U.2), s, g, w, m, t, c, v, a), c_put_bad (by rw [g1, g2]; exact q), m_put_bad g3 g4 (by omega) (by omega) (by omega) (by omega) q, h.thrown⟩
end SP2
