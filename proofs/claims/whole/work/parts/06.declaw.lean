/-! the law: by stretches -/
set_option maxRecDepth 100000 in
theorem mj_lk_0 : mj_dc code 0 ((iL_law.drop 0).take 150) = true := by decide +kernel
set_option maxRecDepth 100000 in
theorem mj_lk_150 : mj_dc code 150 ((iL_law.drop 150).take 150) = true := by decide +kernel
set_option maxRecDepth 100000 in
theorem mj_lk_300 : mj_dc code 300 ((iL_law.drop 300).take 150) = true := by decide +kernel
set_option maxRecDepth 100000 in
theorem mj_lk_450 : mj_dc code 450 ((iL_law.drop 450).take 150) = true := by decide +kernel
set_option maxRecDepth 100000 in
theorem mj_lk_600 : mj_dc code 600 ((iL_law.drop 600).take 150) = true := by decide +kernel
set_option maxRecDepth 100000 in
theorem mj_lk_750 : mj_dc code 750 ((iL_law.drop 750).take 150) = true := by decide +kernel
set_option maxRecDepth 100000 in
theorem mj_lk_900 : mj_dc code 900 ((iL_law.drop 900).take 150) = true := by decide +kernel
set_option maxRecDepth 100000 in
theorem mj_lk_1050 : mj_dc code 1050 ((iL_law.drop 1050).take 150) = true := by decide +kernel
set_option maxRecDepth 100000 in
theorem mj_lk_1200 : mj_dc code 1200 ((iL_law.drop 1200).take 150) = true := by decide +kernel
set_option maxRecDepth 100000 in
theorem mj_lk_1350 : mj_dc code 1350 ((iL_law.drop 1350).take 1) = true := by decide +kernel
theorem mj_dc_app (bytes : ByteArray) : ∀ (l1 l2 : List (Option Instr)) (pc : Nat), mj_dc bytes pc l1 = true → mj_dc bytes (pc + l1.length) l2 = true → mj_dc bytes pc (l1 ++ l2) = true
  | [], l2, pc, _, h2 => h2
  | o :: t, l2, pc, h1, h2 => by
    simp only [mj_dc, Bool.and_eq_true] at h1
    simp only [List.cons_append, mj_dc, Bool.and_eq_true]
    refine ⟨h1.1, mj_dc_app bytes t l2 (pc + 1) h1.2 ?_⟩
    rw [List.length_cons] at h2
    rwa [show pc + 1 + t.length = pc + (t.length + 1) by omega]
set_option maxRecDepth 100000 in
theorem mj_law_split : iL_law = (iL_law.drop 0).take 150 ++ ((iL_law.drop 150).take 150 ++ ((iL_law.drop 300).take 150 ++ ((iL_law.drop 450).take 150 ++ ((iL_law.drop 600).take 150 ++ ((iL_law.drop 750).take 150 ++ ((iL_law.drop 900).take 150 ++ ((iL_law.drop 1050).take 150 ++ ((iL_law.drop 1200).take 150 ++ ((iL_law.drop 1350).take 1))))))))) := by decide +kernel
set_option maxRecDepth 100000 in
theorem mj_law_dc : mj_dc code 0 iL_law = true := by
  rw [mj_law_split]
  exact (mj_dc_app code _ _ 0 mj_lk_0 (mj_dc_app code _ _ 150 mj_lk_150 (mj_dc_app code _ _ 300 mj_lk_300 (mj_dc_app code _ _ 450 mj_lk_450 (mj_dc_app code _ _ 600 mj_lk_600 (mj_dc_app code _ _ 750 mj_lk_750 (mj_dc_app code _ _ 900 mj_lk_900 (mj_dc_app code _ _ 1050 mj_lk_1050 (mj_dc_app code _ _ 1200 mj_lk_1200 mj_lk_1350)))))))))
