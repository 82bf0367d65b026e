/-! promise 9, side by side -/
section SB
variable {P : fP} {U : fU} {s : fA × fA × fA} {g : fG} {w : fW} {m : fM} {t : fR} {c : fA × fA × fA} {v : fA × fA} {a : fA × Int32} {d : Nat}
theorem lm_by {p i : Nat} (hp : p ≤ 10) (hi : i < 400) (hsd : gsd g = nI p) (o : Int32) : ∀ (j k : Nat), j + k = p → mj_R (mj_C d) 9 false (some .int) iX9_byOf (2, [some (.ref 35), some (.int (nI i)), some (.int o), some (.int (nI k))], [], fbP P (mdZ U s g w m t c v a)) (fun r h => r = some (.int (sdTo (fun q => gat g (i * 10 + q)) o j k)) ∧ h = fbP P (mdZ U s g w m t c v a))
  | 0, k, hk => by
    refine mj_b0 40 rfl ?_
    refine mj_brt (by show gsd g ≤ nI k; rw [hsd]; exact nI_le (by omega) (by omega)) ?_
    refine mj_b0 40 rfl ?_
    exact mj_end rfl rfl trivial ⟨rfl, rfl⟩
  | j + 1, k, hk => by
    have e1 : mj_kc 10 * nI i + nI k = nI (i * 10 + k) := by
      show nI 10 * nI i + nI k = _
      rw [pk_mul, nI_add, Nat.mul_comm]
    have e2 : (nI (i * 10 + k)).toNatClampNeg = i * 10 + k := nI_clamp (by omega)
    refine mj_b0 40 rfl ?_
    refine mj_brf (by show ¬ gsd g ≤ nI k; rw [hsd]; exact nI_ge (by omega) (by omega)) ?_
    refine mj_b1 40 rfl (by rw [e1]; exact nI_ix (show i * 10 + k < 4000 by omega) (by omega)) ?_
    rw [e1, e2]
    refine mj_br (fun h1 => ?_) (fun h1 => ?_)
    · have ih := lm_by hp hi hsd o j (k + 1) (by omega)
      rw [← nI_add k 1] at ih
      refine mj_b0 2 rfl ?_
      simp only [sdTo, if_neg h1]
      exact ih
    · refine mj_b0 40 rfl ?_
      exact mj_end rfl rfl trivial ⟨by simp only [sdTo]; rw [if_pos (Decidable.not_not.mp h1)], rfl⟩
theorem m_byOf {p i : Nat} (hp : p ≤ 10) (hi : i < 400) (hsd : gsd g = nI p) (o : Int32) : mj_C (d + 1) nX9_byOf [.ref 35, .int (nI i), .int o] (fbP P (mdZ U s g w m t c v a)) (some (.int (sdTo (fun q => gat g (i * 10 + q)) o p 0))) (fbP P (mdZ U s g w m t c v a)) := by
  refine mj_C.of rfl rfl rfl ?_
  refine mj_b0 2 rfl ?_
  exact lm_by hp hi hsd o p 0 (by omega)
end SB
theorem sdTo_cong {f f' : Nat → Int32} {o : Int32} : ∀ (j k p : Nat), j + k = p → (∀ q, q < p → f q = f' q) → sdTo f o j k = sdTo f' o j k
  | 0, k, p, _, _ => rfl
  | j + 1, k, p, h, hf => by
    simp only [sdTo]
    rw [hf k (by omega), sdTo_cong j (k + 1) p (by omega) hf]
