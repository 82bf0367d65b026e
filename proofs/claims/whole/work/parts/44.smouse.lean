/-! promise 16, side by side -/
theorem ix4 (x : Int32) : x = nI 0 ∨ x = nI 1 ∨ x = nI 2 ∨ x = nI 3 ∨ ((x.toInt < 0 ∨ 3 < x.toInt) ∧ x ≠ nI 0 ∧ x ≠ nI 1 ∧ x ≠ nI 2 ∧ x ≠ nI 3) := by
  rcases pk_ix x (n := 4) (by omega) with h | h | ⟨j, hj, rfl⟩
  · have h2 := Int32.lt_iff_toInt_lt.mp h
    have e0 : (0 : Int32).toInt = 0 := by decide
    refine Or.inr (Or.inr (Or.inr (Or.inr ⟨Or.inl (by omega), ?_, ?_, ?_, ?_⟩))) <;> (rintro rfl; exact absurd h (by decide))
  · have h2 := Int32.le_iff_toInt_le.mp h
    rw [nI_toInt (by omega)] at h2
    refine Or.inr (Or.inr (Or.inr (Or.inr ⟨Or.inr (by omega), ?_, ?_, ?_, ?_⟩))) <;> (rintro rfl; exact absurd h (by decide))
  · rcases (show j = 0 ∨ j = 1 ∨ j = 2 ∨ j = 3 by omega) with rfl | rfl | rfl | rfl
    · exact Or.inl rfl
    · exact Or.inr (Or.inl rfl)
    · exact Or.inr (Or.inr (Or.inl rfl))
    · exact Or.inr (Or.inr (Or.inr (Or.inl rfl)))
def msv (M : fM) (x : Int32) : Int32 := if x = nI 0 then M.1 else if x = nI 1 then M.2.1 else if x = nI 2 then M.2.2.1 else if x = nI 3 then M.2.2.2 else BD
section SU
variable {sc : mj_E} {F : Int32 × Int32} {S : fA × fA × fA} {G : fG} {Y : fY} {M : fM} {T : fT} {C : fC} {V : fV} {A : fA × Int32} {Z : mj_H} {d : Nat}
variable {P : fP} {U : fU} {s : fA × fA × fA} {g : fG} {w : fW} {m : fM} {t : fR} {c : fA × fA × fA} {v : fA × fA} {a : fA × Int32}
theorem c_mouse (x : Int32) : mj_C (d + 1) nX8_mouse [.ref 1, .int x] (fbH sc F S G Y M T C V A Z) (some (.int (msv M x))) (fbH sc F S G Y M T C V A Z) := by
  refine mj_C.of rfl rfl rfl ?_
  refine mj_b0 40 rfl ?_
  rcases ix4 x with rfl | rfl | rfl | rfl | ⟨h1, n0, n1, n2, n3⟩
  · refine mj_swt (t := 32) rfl (Or.inr ⟨by decide, by decide, 31, rfl, rfl⟩) ?_
    refine mj_b0 40 rfl ?_
    exact mj_end rfl rfl trivial ⟨rfl, rfl⟩
  · refine mj_swt (t := 40) rfl (Or.inr ⟨by decide, by decide, 39, rfl, rfl⟩) ?_
    refine mj_b0 40 rfl ?_
    exact mj_end rfl rfl trivial ⟨rfl, rfl⟩
  · refine mj_swt (t := 48) rfl (Or.inr ⟨by decide, by decide, 47, rfl, rfl⟩) ?_
    refine mj_b0 40 rfl ?_
    exact mj_end rfl rfl trivial ⟨rfl, rfl⟩
  · refine mj_swt (t := 56) rfl (Or.inr ⟨by decide, by decide, 55, rfl, rfl⟩) ?_
    refine mj_b0 40 rfl ?_
    exact mj_end rfl rfl trivial ⟨rfl, rfl⟩
  · refine mj_swt (t := 64) rfl (Or.inl ⟨h1, rfl⟩) ?_
    refine mj_b0 40 rfl ?_
    exact mj_end rfl rfl trivial ⟨by unfold msv; rw [if_neg n0, if_neg n1, if_neg n2, if_neg n3], rfl⟩
theorem m_mouse (x : Int32) : mj_C (d + 1) nX9_mouse [.ref 35, .int x] (fbP P (mdZ U s g w m t c v a)) (some (.int (msv m x))) (fbP P (mdZ (nI 0, U.2) s g w m t c v a)) := by
  refine mj_C.of rfl rfl rfl ?_
  refine mj_b0 40 rfl ?_
  refine mj_hq (h' := fbP P (mdZ (nI 0, U.2) s g w m t c v a)) rfl ?_
  refine mj_br (fun h0 : ¬ x = nI 0 => ?_) (fun h0 : ¬ ¬ x = nI 0 => ?_)
  · refine mj_b0 40 rfl ?_
    refine mj_br (fun h1 : ¬ x = nI 1 => ?_) (fun h1 : ¬ ¬ x = nI 1 => ?_)
    · refine mj_b0 40 rfl ?_
      refine mj_br (fun h2 : ¬ x = nI 2 => ?_) (fun h2 : ¬ ¬ x = nI 2 => ?_)
      · refine mj_b0 40 rfl ?_
        refine mj_br (fun h3 : ¬ x = nI 3 => ?_) (fun h3 : ¬ ¬ x = nI 3 => ?_)
        · refine mj_b0 40 rfl ?_
          exact mj_end rfl rfl trivial ⟨by unfold msv; rw [if_neg h0, if_neg h1, if_neg h2, if_neg h3], rfl⟩
        · refine mj_b0 40 rfl ?_
          exact mj_end rfl rfl trivial ⟨by unfold msv; rw [if_neg h0, if_neg h1, if_neg h2, if_pos (Decidable.not_not.mp h3)], rfl⟩
      · refine mj_b0 40 rfl ?_
        exact mj_end rfl rfl trivial ⟨by unfold msv; rw [if_neg h0, if_neg h1, if_pos (Decidable.not_not.mp h2)], rfl⟩
    · refine mj_b0 40 rfl ?_
      exact mj_end rfl rfl trivial ⟨by unfold msv; rw [if_neg h0, if_pos (Decidable.not_not.mp h1)], rfl⟩
  · refine mj_b0 40 rfl ?_
    exact mj_end rfl rfl trivial ⟨by unfold msv; rw [if_pos (Decidable.not_not.mp h0)], rfl⟩
theorem s_mouse (x : Int32) : Sim (d + 1) nX8_mouse nX9_mouse [.int x] := by
  intro P z h
  obtain ⟨U, s, g, w, m, t, c, v, a⟩ := z
  obtain ⟨sc, F, S, G, Y, M, T, C, V, A⟩ := P
  obtain ⟨b, hb, -, -, -, -, -, -, ⟨e, -⟩, -⟩ := id h
  have e' : M = m := e
  subst e'
  exact ⟨msv M x, (sc, F, S, G, Y, M, T, C, V, A), ((nI 0, U.2), s, g, w, M, t, c, v, a), c_mouse x, m_mouse x, h.thrown⟩
end SU
