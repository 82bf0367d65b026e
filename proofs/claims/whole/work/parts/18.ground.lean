/-! Ground: what reads -/
section GR
variable {sc : mj_E} {F : Int32 × Int32} {S : fA × fA × fA} {G : fG} {Y : fY} {M : fM} {T : fT} {C : fA × fA} {V : fV} {A : fA × Int32} {Z : mj_H} {d : Nat}
theorem c_has (c : Int32) : mj_C (d + 1) nX2_has [.ref 6, .int c] (fbH sc F S G Y M T C V A Z) (some (.int (vB (¬ c < 0 ∧ ¬ gcl G ≤ c)))) (fbH sc F S G Y M T C V A Z) := by
  refine mj_C.of rfl rfl rfl ?_
  refine mj_b0 40 rfl ?_
  refine mj_br (fun h1 => ?_) (fun h1 => ?_)
  · refine mj_b0 40 rfl ?_
    exact mj_end rfl rfl (Or.inl rfl) ⟨by rw [vB_f (fun q => q.1 h1)]; rfl, rfl⟩
  · refine mj_b0 40 rfl ?_
    refine mj_br (fun h2 => ?_) (fun h2 => ?_)
    · refine mj_b0 40 rfl ?_
      exact mj_end rfl rfl (Or.inl rfl) ⟨by rw [vB_f (fun q => q.2 h2)]; rfl, rfl⟩
    · refine mj_b0 40 rfl ?_
      exact mj_end rfl rfl (Or.inr rfl) ⟨by rw [vB_t ⟨h1, h2⟩]; rfl, rfl⟩
theorem c_hasSide (c s : Int32) : mj_C (d + 2) nX2_hasSide [.ref 6, .int c, .int s] (fbH sc F S G Y M T C V A Z) (some (.int (vB ((¬ c < 0 ∧ ¬ gcl G ≤ c) ∧ ¬ s < 0 ∧ ¬ gsd G ≤ s)))) (fbH sc F S G Y M T C V A Z) := by
  refine mj_C.of rfl rfl rfl ?_
  refine mj_b0 40 rfl ?_
  refine mj_cV rfl rfl rfl rfl rfl rfl (c_has c) ?_
  refine mj_b0 40 rfl ?_
  refine mj_br (fun h0 => ?_) (fun h0 => ?_)
  · refine mj_b0 40 rfl ?_
    exact mj_end rfl rfl (Or.inl rfl) ⟨by rw [vB_f (fun q => vB_0.mp h0 q.1)]; rfl, rfl⟩
  · have h0 := Decidable.not_not.mp (fun q => h0 (vB_0.mpr q))
    refine mj_b0 40 rfl ?_
    refine mj_br (fun h1 => ?_) (fun h1 => ?_)
    · refine mj_b0 40 rfl ?_
      exact mj_end rfl rfl (Or.inl rfl) ⟨by rw [vB_f (fun q => q.2.1 h1)]; rfl, rfl⟩
    · refine mj_b0 40 rfl ?_
      refine mj_br (fun h2 => ?_) (fun h2 => ?_)
      · refine mj_b0 40 rfl ?_
        exact mj_end rfl rfl (Or.inl rfl) ⟨by rw [vB_f (fun q => q.2.2 h2)]; rfl, rfl⟩
      · refine mj_b0 40 rfl ?_
        exact mj_end rfl rfl (Or.inr rfl) ⟨by rw [vB_t ⟨h0, h1, h2⟩]; rfl, rfl⟩
theorem c_beyond {c s : Nat} (hc : c < 400) (hs : s < 10) : mj_C (d + 1) nX2_beyond [.ref 6, .int (nI c), .int (nI s)] (fbH sc F S G Y M T C V A Z) (some (.int (gat G (c * 10 + s)))) (fbH sc F S G Y M T C V A Z) := by
  have e : nI c * nI 10 + nI s = nI (c * 10 + s) := by rw [pk_mul, nI_add]
  have e2 : (nI (c * 10 + s)).toNatClampNeg = c * 10 + s := nI_clamp (by omega)
  refine mj_C.of rfl rfl rfl ?_
  refine mj_b0 40 rfl ?_
  refine mj_brf (by show ¬ nI c * nI 10 + nI s < 0; rw [e]; exact nI_pos (by omega)) ?_
  refine mj_b0 40 rfl ?_
  refine mj_brf (by show ¬ nI 4000 ≤ nI c * nI 10 + nI s; rw [e]; exact nI_ge (by omega) (by omega)) ?_
  refine mj_b1 40 rfl (by show vp_in (nI c * nI 10 + nI s) 4000; rw [e]; exact vp_in_nI (by omega) (by omega)) ?_
  exact mj_end rfl rfl trivial ⟨by show some (Value.int (gat G (nI c * nI 10 + nI s).toNatClampNeg)) = _; rw [e, e2], rfl⟩
/-- the first side from k on at which a number stands -/
def sdTo (f : Nat → Int32) (o : Int32) : Nat → Nat → Int32
  | 0, _ => -1000000
  | j + 1, k => if f k = o then nI k else sdTo f o j (k + 1)
theorem l_sideTo {p c : Nat} (hp : p ≤ 10) (hc : c < 400) (hsd : gsd G = nI p) (o : Int32) : ∀ (j k : Nat), j + k = p → mj_R (mj_C (d + 1)) 2 false (some .int) iX2_sideTo (2, [some (.ref 6), some (.int (nI c)), some (.int o), some (.int (nI k))], [], fbH sc F S G Y M T C V A Z) (fun r h => r = some (.int (sdTo (fun s => gat G (c * 10 + s)) o j k)) ∧ h = fbH sc F S G Y M T C V A Z)
  | 0, k, hk => by
    refine mj_b0 40 rfl ?_
    refine mj_brt (by show gsd G ≤ nI k; rw [hsd]; exact nI_le (by omega) (by omega)) ?_
    refine mj_b0 40 rfl ?_
    exact mj_end rfl rfl trivial ⟨rfl, rfl⟩
  | j + 1, k, hk => by
    refine mj_b0 40 rfl ?_
    refine mj_brf (by show ¬ gsd G ≤ nI k; rw [hsd]; exact nI_ge (by omega) (by omega)) ?_
    refine mj_b0 40 rfl ?_
    refine mj_cV rfl rfl rfl rfl rfl rfl (c_beyond hc (by omega)) ?_
    refine mj_b0 40 rfl ?_
    refine mj_br (fun h1 => ?_) (fun h1 => ?_)
    · have ih := l_sideTo hp hc hsd o j (k + 1) (by omega)
      rw [← nI_add k 1] at ih
      refine mj_b0 2 rfl ?_
      simp only [sdTo, if_neg h1]
      exact ih
    · refine mj_b0 40 rfl ?_
      exact mj_end rfl rfl trivial ⟨by simp only [sdTo]; rw [if_pos (Decidable.not_not.mp h1)], rfl⟩
theorem c_sideTo {p c : Nat} (hp : p ≤ 10) (hc : c < 400) (hsd : gsd G = nI p) (o : Int32) : mj_C (d + 2) nX2_sideTo [.ref 6, .int (nI c), .int o] (fbH sc F S G Y M T C V A Z) (some (.int (sdTo (fun s => gat G (c * 10 + s)) o p 0))) (fbH sc F S G Y M T C V A Z) := by
  refine mj_C.of rfl rfl rfl ?_
  refine mj_b0 2 rfl ?_
  exact l_sideTo hp hc hsd o p 0 (by omega)
end GR
