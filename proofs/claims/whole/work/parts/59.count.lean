/-! promises 22 and 35, side by side -/
section CO
variable {sc : mj_E} {F : Int32 × Int32} {S : fA × fA × fA} {G : fG} {Y : fY} {M : fM} {T : fT} {C : fC} {V : fV} {A : fA × Int32} {Z : mj_H} {d : Nat}
theorem c_countTold {b k : Nat} (hb : b < 22) (h : Bd b G) (hk : k ≤ 3) : mj_C (d + 3) nX2_countTold [.ref 6, .int (nI k)] (fbH sc F S G Y M T C V A Z) (some (.int (sm (fun c => if tKd b c = k then nI 1 else nI 0) (bn b)))) (fbH sc F S G Y M T C V A Z) := by
  have t0 := tb0 hb
  refine mj_C.of rfl rfl rfl ?_
  refine mj_b0 4 rfl ?_
  refine mj_iter (fun c => (4, [some (.ref 6), some (.int (nI k)), some (.int (sm (fun c => if tKd b c = k then nI 1 else nI 0) c)), some (.int (nI c))], [], (fbH sc F S G Y M T C V A Z))) (bn b) (fun c hc ih => ?_) ?_
  · rw [← nI_add c 1] at ih
    simp only [sm] at ih
    have t2 := tKd_le b c
    refine mj_b0 40 rfl ?_
    refine mj_brf (by rw [bd_cl h]; exact nI_ge hc (by omega)) ?_
    refine mj_b0 40 rfl ?_
    refine mj_cV rfl rfl rfl rfl rfl rfl (c_toldKind hb h hc) ?_
    refine mj_b0 40 rfl ?_
    by_cases q : tKd b c = k
    · refine mj_brf (fun z => z (by rw [q])) ?_
      refine mj_b0 6 rfl ?_
      rw [if_pos q] at ih
      exact ih
    · refine mj_brt (fun z => q ((nI_eq (by omega) (by omega)).mp z)) ?_
      refine mj_b0 5 rfl ?_
      rw [if_neg q] at ih
      exact ih
  · refine mj_b0 40 rfl ?_
    refine mj_brt (by rw [bd_cl h]; exact nI_le (by omega) (by omega)) ?_
    refine mj_b0 40 rfl ?_
    exact mj_end rfl rfl trivial ⟨rfl, rfl⟩
theorem c_countLaid : mj_C (d + 2) nX5_countLaid [.ref 2] (fbH sc F S G Y M T C V A Z) (some (.int (sm (fun k => if S.2.1 k = -(nI 1) then nI 0 else nI 1) 8))) (fbH sc F S G Y M T C V A Z) := by
  refine mj_C.of rfl rfl rfl ?_
  refine mj_b0 4 rfl ?_
  refine mj_iter (fun c => (4, [some (.ref 2), some (.int (sm (fun k => if S.2.1 k = -(nI 1) then nI 0 else nI 1) c)), some (.int (nI c))], [], (fbH sc F S G Y M T C V A Z))) 8 (fun c hc ih => ?_) ?_
  · rw [← nI_add c 1] at ih
    simp only [sm] at ih
    refine mj_b0 40 rfl ?_
    refine mj_brf (show ¬ nI 8 ≤ nI c from nI_ge hc (by omega)) ?_
    refine mj_b0 40 rfl ?_
    refine mj_cV rfl rfl rfl rfl rfl rfl (c_isMissing hc) ?_
    refine mj_b0 40 rfl ?_
    by_cases q : S.2.1 c = -(nI 1)
    · refine mj_brf (fun z => vB_0.mp z q) ?_
      refine mj_b0 6 rfl ?_
      rw [if_pos q] at ih
      exact ih
    · refine mj_brt (vB_0.mpr q) ?_
      refine mj_b0 5 rfl ?_
      rw [if_neg q] at ih
      exact ih
  · refine mj_b0 40 rfl ?_
    refine mj_brt (show nI 8 ≤ nI 8 by decide) ?_
    refine mj_b0 40 rfl ?_
    exact mj_end rfl rfl trivial ⟨rfl, rfl⟩
end CO
section COm
variable {P : fP} {U : fU} {s : fA × fA × fA} {g : fG} {w : fW} {m : fM} {t : fR} {c : fA × fA × fA} {v : fA × fA} {a : fA × Int32} {d : Nat}
theorem m_count0 (hl : ∀ k, k < 8 → (s.1 k = -(nI 1) ∨ s.1 k = nI 0 ∨ s.1 k = nI 1 ∨ s.1 k = nI 2)) : mj_C (d + 3) nX9_count [.ref 35, .int (nI 0)] (fbP P (mdZ U s g w m t c v a)) (some (.int (sm (fun k => if s.1 k = -(nI 1) then nI 0 else nI 1) 8))) (fbP P (mdZ (nI 0, U.2) s g w m t c v a)) := by
  refine mj_C.of rfl rfl rfl ?_
  refine mj_b0 40 rfl ?_
  refine mj_hq (h' := (fbP P (mdZ (nI 0, U.2) s g w m t c v a))) rfl ?_
  refine mj_swt (t := 60) rfl (Or.inr ⟨by decide, by decide, 52, rfl, rfl⟩) ?_
  refine mj_b0 2 rfl ?_
  refine mj_iter (fun j => (62, [some (.ref 35), some (.int (nI 0)), some (.int (sm (fun k => if s.1 k = -(nI 1) then nI 0 else nI 1) j)), some (.int (nI j))], [], (fbP P (mdZ (nI 0, U.2) s g w m t c v a)))) 8 (fun k hk ih => ?_) ?_
  · rw [← nI_add k 1] at ih
    simp only [sm] at ih
    have e1 : (nI k).toNatClampNeg = k := nI_clamp (by omega)
    refine mj_b0 40 rfl ?_
    refine mj_brf (show ¬ nI 8 ≤ nI k from nI_ge hk (by omega)) ?_
    refine mj_b1 40 rfl (nI_ix hk (by omega)) ?_
    rw [e1]
    by_cases q : s.1 k = -(nI 1)
    · refine mj_brt (neg1_lt q) ?_
      refine mj_b0 5 rfl ?_
      rw [if_pos q] at ih
      exact ih
    · refine mj_brf (nlt0 (lane4 (hl k hk) q)) ?_
      refine mj_b0 6 rfl ?_
      rw [if_neg q] at ih
      exact ih
  · refine mj_b0 40 rfl ?_
    refine mj_brt (show nI 8 ≤ nI 8 by decide) ?_
    refine mj_b0 40 rfl ?_
    exact mj_end rfl rfl trivial ⟨rfl, rfl⟩
theorem m_countK {b k : Nat} (hb : b < 22) (h : Bd b g) (hk : k < 3) : mj_C (d + 3) nX9_count [.ref 35, .int (nI (k + 4))] (fbP P (mdZ U s g w m t c v a)) (some (.int (sm (fun c => if tKd b c = k + 1 then nI 1 else nI 0) (bn b)))) (fbP P (mdZ (nI 0, U.2) s g w m t c v a)) := by
  have t0 := tb0 hb
  refine mj_C.of rfl rfl rfl ?_
  refine mj_b0 40 rfl ?_
  refine mj_hq (h' := (fbP P (mdZ (nI 0, U.2) s g w m t c v a))) rfl ?_
  refine mj_swt (t := 108) rfl (by
    rcases (show k = 0 ∨ k = 1 ∨ k = 2 by omega) with rfl | rfl | rfl
    · exact Or.inr ⟨by decide, by decide, 100, rfl, rfl⟩
    · exact Or.inr ⟨by decide, by decide, 100, rfl, rfl⟩
    · exact Or.inr ⟨by decide, by decide, 100, rfl, rfl⟩) ?_
  refine mj_b0 2 rfl ?_
  refine mj_iter (fun j => (110, [some (.ref 35), some (.int (nI (k + 4))), some (.int (sm (fun c => if tKd b c = k + 1 then nI 1 else nI 0) j)), some (.int (nI j))], [], (fbP P (mdZ (nI 0, U.2) s g w m t c v a)))) (bn b) (fun j hj ih => ?_) ?_
  · rw [← nI_add j 1] at ih
    simp only [sm] at ih
    have t2 := tKd_le b j
    have e1 : nI (k + 4) - mj_kc 3 = nI (k + 1) := pk_sub (a := k + 4) (b := 3) (by omega)
    refine mj_b0 40 rfl ?_
    refine mj_brf (by rw [bd_cl h]; exact nI_ge hj (by omega)) ?_
    refine mj_b0 40 rfl ?_
    refine mj_cV rfl rfl rfl rfl rfl rfl (m_kindOf hb h hj) ?_
    refine mj_b0 40 rfl ?_
    rw [e1]
    by_cases q : tKd b j = k + 1
    · refine mj_brf (fun z => z (by rw [q])) ?_
      refine mj_b0 6 rfl ?_
      rw [if_pos q] at ih
      exact ih
    · refine mj_brt (fun z => q ((nI_eq (by omega) (by omega)).mp z)) ?_
      refine mj_b0 5 rfl ?_
      rw [if_neg q] at ih
      exact ih
  · refine mj_b0 40 rfl ?_
    refine mj_brt (by rw [bd_cl h]; exact nI_le (by omega) (by omega)) ?_
    refine mj_b0 40 rfl ?_
    exact mj_end rfl rfl trivial ⟨rfl, rfl⟩
end COm
section COS
variable {d : Nat}
/-- promise 35 -/
theorem s_count (x : Int32) : Sim (d + 4) nX8_count nX9_count [.int x] := by
  intro P z hr
  obtain ⟨U, s, g, w, m, t, c, v, a⟩ := z
  obtain ⟨sc, F, S, G, Y, M, T, C, V, A⟩ := P
  obtain ⟨b, hb, h1, h2, h3, h4, h5, h6, h7, h8, h9, ⟨hq, hl⟩, h11⟩ := id hr
  have t0 := tb0 hb
  have h : Bd b G := h1
  have h' : Bd b g := h2
  have hl' : LvR b (lvs V) v.1 := hl
  rcases ixn x (n := 9) (by omega) with ⟨q, -⟩ | ⟨k, hk, rfl⟩
  · refine ⟨BD, (sc, F, S, G, Y, M, T, C, V, A), ((nI 0, U.2), s, g, w, m, t, c, v, a), ?_, ?_, hr.thrown⟩
    · refine mj_C.of rfl rfl rfl ?_
      refine mj_b0 40 rfl ?_
      refine mj_swt (t := 135) rfl (Or.inl ⟨by omega, rfl⟩) ?_
      refine mj_b0 40 rfl ?_
      exact mj_end rfl rfl trivial ⟨rfl, rfl⟩
    · refine mj_C.of rfl rfl rfl ?_
      refine mj_b0 40 rfl ?_
      refine mj_hq (h' := fbP (sc, F, S, G, Y, M, T, C, V, A) (mdZ (nI 0, U.2) s g w m t c v a)) rfl ?_
      refine mj_swt (t := 157) rfl (Or.inl ⟨by omega, rfl⟩) ?_
      refine mj_b0 40 rfl ?_
      exact mj_end rfl rfl trivial ⟨rfl, rfl⟩
  · have told : ∀ j, j < 3 → ∃ r P' z', mj_C (d + 4) nX8_count [.ref 1, .int (nI (j + 4))] (fbP (sc, F, S, G, Y, M, T, C, V, A) (mdz (U, s, g, w, m, t, c, v, a))) (some (.int r)) (fbP P' (mdz (U, s, g, w, m, t, c, v, a))) ∧ mj_C (d + 4) nX9_count [.ref 35, .int (nI (j + 4))] (fbP P' (mdz (U, s, g, w, m, t, c, v, a))) (some (.int r)) (fbP P' (mdz z')) ∧ Rel P' z' := by
      intro j hj
      refine ⟨_, (sc, F, S, G, Y, M, T, C, V, A), ((nI 0, U.2), s, g, w, m, t, c, v, a), ?_, m_countK hb h' hj, hr.thrown⟩
      refine mj_C.of rfl rfl rfl ?_
      refine mj_b0 40 rfl ?_
      rcases (show j = 0 ∨ j = 1 ∨ j = 2 by omega) with rfl | rfl | rfl
      · refine mj_swt (t := 84) rfl (Or.inr ⟨by decide, by decide, 83, rfl, rfl⟩) ?_
        refine mj_b0 40 rfl ?_
        refine mj_cV rfl rfl rfl rfl rfl rfl (c_countTold hb h (show 0 + 1 ≤ 3 by omega)) ?_
        exact mj_end rfl rfl trivial ⟨rfl, rfl⟩
      · refine mj_swt (t := 93) rfl (Or.inr ⟨by decide, by decide, 92, rfl, rfl⟩) ?_
        refine mj_b0 40 rfl ?_
        refine mj_cV rfl rfl rfl rfl rfl rfl (c_countTold hb h (show 1 + 1 ≤ 3 by omega)) ?_
        exact mj_end rfl rfl trivial ⟨rfl, rfl⟩
      · refine mj_swt (t := 102) rfl (Or.inr ⟨by decide, by decide, 101, rfl, rfl⟩) ?_
        refine mj_b0 40 rfl ?_
        refine mj_cV rfl rfl rfl rfl rfl rfl (c_countTold hb h (show 2 + 1 ≤ 3 by omega)) ?_
        exact mj_end rfl rfl trivial ⟨rfl, rfl⟩
    rcases (show k = 0 ∨ k = 1 ∨ k = 2 ∨ k = 3 ∨ k = 4 ∨ k = 5 ∨ k = 6 ∨ k = 7 ∨ k = 8 by omega) with rfl | rfl | rfl | rfl | rfl | rfl | rfl | rfl | rfl
    · have h5' : ShR S s := h5
      refine ⟨sm (fun k => if s.1 k = -(nI 1) then nI 0 else nI 1) 8, (sc, F, S, G, Y, M, T, C, V, A), ((nI 0, U.2), s, g, w, m, t, c, v, a), ?_, m_count0 (fun k hk => (h5' k hk).2.1), hr.thrown⟩
      refine mj_C.of rfl rfl rfl ?_
      refine mj_b0 40 rfl ?_
      refine mj_swt (t := 52) rfl (Or.inr ⟨by decide, by decide, 51, rfl, rfl⟩) ?_
      refine mj_b0 40 rfl ?_
      refine mj_cV rfl rfl rfl rfl rfl rfl (c_countLaid) ?_
      exact mj_end rfl rfl trivial ⟨by rw [sm_cong (fun k hk => by rw [(h5' k hk).1])], rfl⟩
    · refine ⟨nI (bn b), (sc, F, S, G, Y, M, T, C, V, A), ((nI 0, U.2), s, g, w, m, t, c, v, a), ?_, ?_, hr.thrown⟩
      · refine mj_C.of rfl rfl rfl ?_
        refine mj_b0 40 rfl ?_
        refine mj_swt (t := 60) rfl (Or.inr ⟨by decide, by decide, 59, rfl, rfl⟩) ?_
        refine mj_b0 40 rfl ?_
        exact mj_end rfl rfl trivial ⟨by rw [← bd_cl h], rfl⟩
      · refine mj_C.of rfl rfl rfl ?_
        refine mj_b0 40 rfl ?_
        refine mj_hq (h' := fbP (sc, F, S, G, Y, M, T, C, V, A) (mdZ (nI 0, U.2) s g w m t c v a)) rfl ?_
        refine mj_swt (t := 93) rfl (Or.inr ⟨by decide, by decide, 85, rfl, rfl⟩) ?_
        refine mj_b0 40 rfl ?_
        exact mj_end rfl rfl trivial ⟨by rw [← bd_cl h'], rfl⟩
    · refine ⟨nI (br b), (sc, F, S, G, Y, M, T, C, V, A), ((nI 0, U.2), s, g, w, m, t, c, v, a), ?_, ?_, hr.thrown⟩
      · refine mj_C.of rfl rfl rfl ?_
        refine mj_b0 40 rfl ?_
        refine mj_swt (t := 68) rfl (Or.inr ⟨by decide, by decide, 67, rfl, rfl⟩) ?_
        refine mj_b0 40 rfl ?_
        exact mj_end rfl rfl trivial ⟨by rw [← bd_rg h], rfl⟩
      · refine mj_C.of rfl rfl rfl ?_
        refine mj_b0 40 rfl ?_
        refine mj_hq (h' := fbP (sc, F, S, G, Y, M, T, C, V, A) (mdZ (nI 0, U.2) s g w m t c v a)) rfl ?_
        refine mj_swt (t := 98) rfl (Or.inr ⟨by decide, by decide, 90, rfl, rfl⟩) ?_
        refine mj_b0 40 rfl ?_
        exact mj_end rfl rfl trivial ⟨by rw [← bd_rg h'], rfl⟩
    · refine ⟨nI (bp b), (sc, F, S, G, Y, M, T, C, V, A), ((nI 0, U.2), s, g, w, m, t, c, v, a), ?_, ?_, hr.thrown⟩
      · refine mj_C.of rfl rfl rfl ?_
        refine mj_b0 40 rfl ?_
        refine mj_swt (t := 76) rfl (Or.inr ⟨by decide, by decide, 75, rfl, rfl⟩) ?_
        refine mj_b0 40 rfl ?_
        exact mj_end rfl rfl trivial ⟨by rw [← bd_sd h], rfl⟩
      · refine mj_C.of rfl rfl rfl ?_
        refine mj_b0 40 rfl ?_
        refine mj_hq (h' := fbP (sc, F, S, G, Y, M, T, C, V, A) (mdZ (nI 0, U.2) s g w m t c v a)) rfl ?_
        refine mj_swt (t := 103) rfl (Or.inr ⟨by decide, by decide, 95, rfl, rfl⟩) ?_
        refine mj_b0 40 rfl ?_
        exact mj_end rfl rfl trivial ⟨by rw [← bd_sd h'], rfl⟩
    · exact told 0 (by omega)
    · exact told 1 (by omega)
    · exact told 2 (by omega)
    · refine ⟨sm v.1 (bn b), (sc, F, S, G, Y, M, T, C, V, A), ((nI 0, U.2), s, g, w, m, t, c, v, a), ?_, ?_, hr.thrown⟩
      · refine mj_C.of rfl rfl rfl ?_
        refine mj_b0 40 rfl ?_
        refine mj_swt (t := 111) rfl (Or.inr ⟨by decide, by decide, 110, rfl, rfl⟩) ?_
        refine mj_b0 40 rfl ?_
        refine mj_sq (S' := (123, [some (.ref 1), some (.int (nI 7))], [.int (nI (0 + bn b)), .int (nI 0), .ref 30], fbH sc F S G Y M T C V A (mdz (U, s, g, w, m, t, c, v, a)))) (by rw [show nI (0 + bn b) = gcl G by rw [Nat.zero_add, bd_cl h]] <;> rfl) ?_
        refine mj_cV rfl rfl rfl rfl rfl rfl (x_countIn hq (show 0 + bn b ≤ 400 by omega)) ?_
        exact mj_end rfl rfl trivial ⟨by rw [smF_sm, sm_cong (fun k hk => (hl' k hk).1)], rfl⟩
      · refine mj_C.of rfl rfl rfl ?_
        refine mj_b0 40 rfl ?_
        refine mj_hq (h' := fbP (sc, F, S, G, Y, M, T, C, V, A) (mdZ (nI 0, U.2) s g w m t c v a)) rfl ?_
        refine mj_swt (t := 145) rfl (Or.inr ⟨by decide, by decide, 137, rfl, rfl⟩) ?_
        refine mj_b0 40 rfl ?_
        refine mj_cV rfl rfl rfl rfl rfl rfl (m_livingIn hb h' (fun c hc => (hl' c hc).2)) ?_
        exact mj_end rfl rfl trivial ⟨by rw [sm_cong (fun k _ => if_pos (Or.inl rfl))], rfl⟩
    · obtain ⟨n, n1, n2, n3, n4⟩ := h8
      have n2' : T.2.2.2.2.1 = nI n := n2
      have n3' : t.2.1 = nI n := n3
      refine ⟨nI n, (sc, F, S, G, Y, M, T, C, V, A), ((nI 0, U.2), s, g, w, m, t, c, v, a), ?_, ?_, hr.thrown⟩
      · refine mj_C.of rfl rfl rfl ?_
        refine mj_b0 40 rfl ?_
        refine mj_swt (t := 127) rfl (Or.inr ⟨by decide, by decide, 126, rfl, rfl⟩) ?_
        refine mj_b0 40 rfl ?_
        exact mj_end rfl rfl trivial ⟨by rw [← n2'], rfl⟩
      · refine mj_C.of rfl rfl rfl ?_
        refine mj_b0 40 rfl ?_
        refine mj_hq (h' := fbP (sc, F, S, G, Y, M, T, C, V, A) (mdZ (nI 0, U.2) s g w m t c v a)) rfl ?_
        refine mj_swt (t := 152) rfl (Or.inr ⟨by decide, by decide, 144, rfl, rfl⟩) ?_
        refine mj_b0 40 rfl ?_
        exact mj_end rfl rfl trivial ⟨by rw [← n3'], rfl⟩
end COS
