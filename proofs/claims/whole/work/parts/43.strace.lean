/-! promise 34, side by side -/
theorem le_pred0 {n : Nat} (h2 : n < 2 ^ 30) (x : Int32) : (nI n - nI 1 < x) ↔ (nI n ≤ x) := by
  rw [Int32.lt_iff_toInt_lt, Int32.le_iff_toInt_le, pk_sub_toInt h2 (by omega), nI_toInt (by omega)]
  omega
section ST
variable {P : fP} {U : fU} {s : fA × fA × fA} {g : fG} {w : fW} {m : fM} {t : fR} {c : fA × fA × fA} {v : fA × fA} {a : fA × Int32} {d : Nat}
theorem m_trace_no {n : Nat} (hn : a.2 = nI n) (h2 : n < 2 ^ 30) {x : Int32} (hx : ¬ (¬ x < 0 ∧ ¬ nI n ≤ x)) : mj_C (d + 2) nX9_trace [.ref 35, .int x] (fbP P (mdZ U s g w m t c v a)) (some (.int NO)) (fbP P (mdZ (nI 0, U.2) s g w m t c v a)) := by
  refine mj_C.of rfl rfl rfl ?_
  refine mj_b0 40 rfl ?_
  refine mj_hq (h' := fbP P (mdZ (nI 0, U.2) s g w m t c v a)) rfl ?_
  refine mj_cS rfl rfl rfl rfl (m_in32 (d := d) x 0 (a.2 - nI 1) (by decide) rfl) ?_
  refine mj_b0 40 rfl ?_
  refine mj_brt (vB_0.mpr (fun q => hx ⟨q.1, by rw [hn, le_pred0 h2] at q; exact q.2⟩)) ?_
  refine mj_b0 40 rfl ?_
  exact mj_end rfl rfl trivial ⟨rfl, rfl⟩
theorem m_trace_ok {n i : Nat} (hn : a.2 = nI n) (h2 : n ≤ 16) (hi : i < n) : mj_C (d + 2) nX9_trace [.ref 35, .int (nI i)] (fbP P (mdZ U s g w m t c v a)) (some (.int (a.1 i))) (fbP P (mdZ (nI 0, U.2) s g w m t c v a)) := by
  have e1 : (nI i).toNatClampNeg = i := nI_clamp (by omega)
  refine mj_C.of rfl rfl rfl ?_
  refine mj_b0 40 rfl ?_
  refine mj_hq (h' := fbP P (mdZ (nI 0, U.2) s g w m t c v a)) rfl ?_
  refine mj_cS rfl rfl rfl rfl (m_in32 (d := d) (nI i) 0 (a.2 - nI 1) (by decide) rfl) ?_
  refine mj_b0 40 rfl ?_
  refine mj_brf (fun z => vB_0.mp z ⟨nI_pos (by omega), by rw [hn, le_pred0 (by omega)]; exact nI_ge hi (by omega)⟩) ?_
  refine mj_b1 40 rfl (nI_ix (show i < 16 by omega) (by omega)) ?_
  exact mj_end rfl rfl trivial ⟨by rw [e1], rfl⟩
end ST
section ST2
variable {sc : mj_E} {F : Int32 × Int32} {S : fA × fA × fA} {G : fG} {Y : fY} {M : fM} {T : fT} {C : fC} {V : fV} {A : fA × Int32} {Z : mj_H} {d : Nat}
theorem c_trace_no {x : Int32} (hx : ¬ (¬ x < 0 ∧ ¬ A.2 ≤ x)) : mj_C (d + 1) nX8_trace [.ref 1, .int x] (fbH sc F S G Y M T C V A Z) (some (.int NO)) (fbH sc F S G Y M T C V A Z) := by
  refine mj_C.of rfl rfl rfl ?_
  refine mj_b0 40 rfl ?_
  refine mj_br (fun h1 => ?_) (fun h1 => ?_)
  · refine mj_b0 40 rfl ?_
    exact mj_end rfl rfl trivial ⟨rfl, rfl⟩
  · refine mj_b0 40 rfl ?_
    refine mj_br (fun h2 => ?_) (fun h2 => ?_)
    · refine mj_b0 40 rfl ?_
      exact mj_end rfl rfl trivial ⟨rfl, rfl⟩
    · exact absurd ⟨h1, h2⟩ hx
theorem c_trace_ok {n i : Nat} (hn : A.2 = nI n) (h2 : n ≤ 16) (hi : i < n) : mj_C (d + 1) nX8_trace [.ref 1, .int (nI i)] (fbH sc F S G Y M T C V A Z) (some (.int (A.1 i))) (fbH sc F S G Y M T C V A Z) := by
  have e1 : (nI i).toNatClampNeg = i := nI_clamp (by omega)
  refine mj_C.of rfl rfl rfl ?_
  refine mj_b0 40 rfl ?_
  refine mj_brf (nI_pos (by omega)) ?_
  refine mj_b0 40 rfl ?_
  refine mj_brf (by show ¬ A.2 ≤ nI i; rw [hn]; exact nI_ge hi (by omega)) ?_
  refine mj_b1 40 rfl (nI_ix (show i < 16 by omega) (by omega)) ?_
  exact mj_end rfl rfl trivial ⟨by rw [e1], rfl⟩
theorem s_trace (x : Int32) : Sim (d + 2) nX8_trace nX9_trace [.int x] := by
  intro P z h
  obtain ⟨U, s, g, w, m, t, c, v, a⟩ := z
  obtain ⟨sc, F, S, G, Y, M, T, C, V, A⟩ := P
  obtain ⟨b, hb, -, -, -, -, -, -, -, -, -, -, n, hn, h1, h2, h3⟩ := id h
  have h1' : A.2 = nI n := h1
  have h2' : a.2 = nI n := h2
  by_cases q : ¬ x < 0 ∧ ¬ nI n ≤ x
  · rcases pk_ix x (n := n) (by omega) with z | z | ⟨i, hi, rfl⟩
    · exact absurd z q.1
    · exact absurd z q.2
    · have e : A.1 i = a.1 i := h3 i hi
      have hc := c_trace_ok (d := d + 1) (sc := sc) (F := F) (S := S) (G := G) (Y := Y) (M := M) (T := T) (C := C) (V := V) (A := A) (Z := mdz (U, s, g, w, m, t, c, v, a)) h1' hn hi
      rw [e] at hc
      exact ⟨a.1 i, (sc, F, S, G, Y, M, T, C, V, A), ((nI 0, U.2), s, g, w, m, t, c, v, a), hc, m_trace_ok h2' hn hi, h.thrown⟩
  · exact ⟨NO, (sc, F, S, G, Y, M, T, C, V, A), ((nI 0, U.2), s, g, w, m, t, c, v, a), c_trace_no (by rw [h1']; exact q), m_trace_no h2' (by omega) q, h.thrown⟩
end ST2
