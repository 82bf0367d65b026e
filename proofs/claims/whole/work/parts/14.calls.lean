/-! cells grow, never shrink -/
section MO
variable {own : Nat} {ini : Bool} {pc : Nat} {ls : List (Option Value)} {st : List Value} {h : mj_H} {o : Option Prop} {S' : mj_S}
theorem mj_set_le {a : Nat} {e e' : mj_E} (ha : mj_nth h a = some e) (hs : mj_sz1 e' = mj_sz1 e) : h.length ≤ (h.set a e').length ∧ mj_sz h ≤ mj_sz (h.set a e') := ⟨by rw [List.length_set]; exact Nat.le_refl _, Nat.le_of_eq (mj_sz_set h a e e' ha hs).symm⟩
theorem mj_app_le {e : mj_E} : h.length ≤ (h ++ [e]).length ∧ mj_sz h ≤ mj_sz (h ++ [e]) := ⟨by simp, by rw [mj_sz_app]; omega⟩
theorem mj_rf_le : h.length ≤ h.length ∧ mj_sz h ≤ mj_sz h := ⟨Nat.le_refl _, Nat.le_refl _⟩
theorem mj_ex_mono {ins : Instr} (he : mj_ex pc ls st h own ini ins = some (o, S')) : h.length ≤ S'.2.2.2.length ∧ mj_sz h ≤ mj_sz S'.2.2.2 := by
  unfold mj_ex at he
  split at he
  all_goals first
    | (cases he; done)
    | (simp only [mj_push, mj_b32, mj_d32, mj_b64, mj_d64, mj_s64, mj_i2l, mj_l2i, mj_i2b, mj_i2s, mj_lcmp, mj_lodi, mj_lodl, mj_loda, mj_stoi, mj_stol, mj_stoa, mj_inc, mj_if1, mj_if2, mj_goto, mj_ldc, mj_ldc2, mj_dup, mj_dup2, mj_getf, mj_putf, mj_alen, mj_iald, mj_bald, mj_lald, mj_iast, mj_bast, mj_last, mj_newa, mj_newo, mj_obj, mj_stat, mj_acp, Bool.cond_eq_ite] at he
       repeat' split at he
       all_goals first
         | (cases he; done)
         | (cases he; exact mj_rf_le)
         | (cases he; exact mj_app_le)
         | (cases he; refine mj_set_le (by assumption) ?_; first | rfl | (simp [mj_sz1]; done)))
theorem mj_keep_set {a : Nat} {e e' : mj_E} {L : Nat} {xs : Nat → Int32} (ha : mj_nth h a = some e) (hne : e ≠ .inl (9, L, .inl xs)) (h0 : mj_nth h 0 = some (.inl (9, L, .inl xs))) : mj_nth (h.set a e') 0 = some (.inl (9, L, .inl xs)) := by
  cases a with
  | zero => exact absurd (Option.some.inj (ha.symm.trans h0)) hne
  | succ a' => exact mj_nth0_set h0
theorem mj_keep_app {e1 : mj_E} {L : Nat} {xs : Nat → Int32} (h0 : mj_nth h 0 = some (.inl (9, L, .inl xs))) : mj_nth (h ++ [e1]) 0 = some (.inl (9, L, .inl xs)) := mj_nth_app h0
theorem mj_ex_keep {ins : Instr} {L : Nat} {xs : Nat → Int32} (h0 : mj_nth h 0 = some (.inl (9, L, .inl xs))) (he : mj_ex pc ls st h own ini ins = some (o, S')) : mj_nth S'.2.2.2 0 = some (.inl (9, L, .inl xs)) := by
  unfold mj_ex at he
  split at he
  all_goals first
    | (cases he; done)
    | (simp only [mj_push, mj_b32, mj_d32, mj_b64, mj_d64, mj_s64, mj_i2l, mj_l2i, mj_i2b, mj_i2s, mj_lcmp, mj_lodi, mj_lodl, mj_loda, mj_stoi, mj_stol, mj_stoa, mj_inc, mj_if1, mj_if2, mj_goto, mj_ldc, mj_ldc2, mj_dup, mj_dup2, mj_getf, mj_putf, mj_alen, mj_iald, mj_bald, mj_lald, mj_iast, mj_bast, mj_last, mj_newa, mj_newo, mj_obj, mj_stat, mj_acp, Bool.cond_eq_ite] at he
       repeat' split at he
       all_goals first
         | (cases he; done)
         | (cases he; exact h0)
         | (cases he; exact mj_keep_app h0)
         | (cases he; refine mj_keep_set (by assumption) (fun q => ?_) h0; first | (cases q; done) | (simp_all; done)))
end MO
