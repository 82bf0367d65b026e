/-! the law: by stretches -/
set_option maxRecDepth 100000 in
theorem mj_lk_0 : mj_dc code 0 ((iL_law.drop 0).take 150) = true := by decide +kernel
set_option maxRecDepth 100000 in
theorem mj_lk_150 : mj_dc code 150 ((iL_law.drop 150).take 150) = true := by decide +kernel
set_option maxRecDepth 100000 in
theorem mj_lk_300 : mj_dc code 300 ((iL_law.drop 300).take 150) = true := by decide +kernel
set_option maxRecDepth 100000 in
theorem mj_lk_450 : mj_dc code 450 ((iL_law.drop 450).take 150) = true := by decide +kernel
set_option maxRecDepth 100000 in
theorem mj_lk_600 : mj_dc code 600 ((iL_law.drop 600).take 150) = true := by decide +kernel
set_option maxRecDepth 100000 in
theorem mj_lk_750 : mj_dc code 750 ((iL_law.drop 750).take 150) = true := by decide +kernel
set_option maxRecDepth 100000 in
theorem mj_lk_900 : mj_dc code 900 ((iL_law.drop 900).take 150) = true := by decide +kernel
set_option maxRecDepth 100000 in
theorem mj_lk_1050 : mj_dc code 1050 ((iL_law.drop 1050).take 150) = true := by decide +kernel
set_option maxRecDepth 100000 in
theorem mj_lk_1200 : mj_dc code 1200 ((iL_law.drop 1200).take 150) = true := by decide +kernel
set_option maxRecDepth 100000 in
theorem mj_lk_1350 : mj_dc code 1350 ((iL_law.drop 1350).take 1) = true := by decide +kernel
theorem mj_dc_app (bytes : ByteArray) : ∀ (l1 l2 : List (Option Instr)) (pc : Nat), mj_dc bytes pc l1 = true → mj_dc bytes (pc + l1.length) l2 = true → mj_dc bytes pc (l1 ++ l2) = true
  | [], l2, pc, _, h2 => h2
  | o :: t, l2, pc, h1, h2 => by
    simp only [mj_dc, Bool.and_eq_true] at h1
    simp only [List.cons_append, mj_dc, Bool.and_eq_true]
    refine ⟨h1.1, mj_dc_app bytes t l2 (pc + 1) h1.2 ?_⟩
    rw [List.length_cons] at h2
    rwa [show pc + 1 + t.length = pc + (t.length + 1) by omega]
set_option maxRecDepth 100000 in
theorem mj_law_split : iL_law = (iL_law.drop 0).take 150 ++ ((iL_law.drop 150).take 150 ++ ((iL_law.drop 300).take 150 ++ ((iL_law.drop 450).take 150 ++ ((iL_law.drop 600).take 150 ++ ((iL_law.drop 750).take 150 ++ ((iL_law.drop 900).take 150 ++ ((iL_law.drop 1050).take 150 ++ ((iL_law.drop 1200).take 150 ++ ((iL_law.drop 1350).take 1))))))))) := by decide +kernel
set_option maxRecDepth 100000 in
theorem mj_law_dc : mj_dc code 0 iL_law = true := by
  rw [mj_law_split]
  exact (mj_dc_app code _ _ 0 mj_lk_0 (mj_dc_app code _ _ 150 mj_lk_150 (mj_dc_app code _ _ 300 mj_lk_300 (mj_dc_app code _ _ 450 mj_lk_450 (mj_dc_app code _ _ 600 mj_lk_600 (mj_dc_app code _ _ 750 mj_lk_750 (mj_dc_app code _ _ 900 mj_lk_900 (mj_dc_app code _ _ 1050 mj_lk_1050 (mj_dc_app code _ _ 1200 mj_lk_1200 mj_lk_1350)))))))))
theorem mj_dc_at {bytes : ByteArray} : ∀ {K : List (Option Instr)} {pc0 pc : Nat} {ins : Instr}, mj_dc bytes pc0 K = true → mj_ld K pc = some ins → ∃ len, decode bytes (pc0 + pc) = .ok (ins, len) ∧ (mj_len ins = 0 ∨ len = mj_len ins)
  | [], pc0, pc, ins, h, h1 => by cases h1
  | o :: t, pc0, 0, ins, h, h1 => by
    simp only [mj_dc, Bool.and_eq_true] at h
    have h2 := h.1
    have h1' : o = some ins := h1
    subst h1'
    unfold mj_dc1 at h2
    dsimp only at h2
    cases hq : decode bytes pc0 with
    | error e => rw [hq] at h2; cases h2
    | ok q =>
      rw [hq] at h2
      simp only [Bool.and_eq_true, decide_eq_true_eq, Bool.or_eq_true] at h2
      refine ⟨q.2, ?_, ?_⟩
      · rw [← h2.1]; exact hq
      · rcases h2.2 with r | r
        · exact Or.inl (Nat.eq_of_beq_eq_true r)
        · exact Or.inr (Nat.eq_of_beq_eq_true r)
  | o :: t, pc0, pc + 1, ins, h, h1 => by
    simp only [mj_dc, Bool.and_eq_true] at h
    obtain ⟨len, a, b⟩ := mj_dc_at (pc0 := pc0 + 1) (pc := pc) h.2 h1
    exact ⟨len, by rwa [show pc0 + (pc + 1) = pc0 + 1 + pc by omega], b⟩
