/-! Ground: what reads -/
section GR
variable {sc : mj_E} {F : Int32 × Int32} {S : fA × fA × fA} {G : fG} {Y : fY} {M : fM} {T : fT} {C : fC} {V : fV} {A : fA × Int32} {Z : mj_H} {d : Nat}
theorem c_has (c : Int32) : mj_C (d + 1) nX2_has [.ref 6, .int c] (fbH sc F S G Y M T C V A Z) (some (.int (vB (¬ c < 0 ∧ ¬ gcl G ≤ c)))) (fbH sc F S G Y M T C V A Z) := by
  refine mj_C.of rfl rfl rfl ?_
  refine mj_b0 40 rfl ?_
  refine mj_br (fun h1 => ?_) (fun h1 => ?_)
  · refine mj_b0 40 rfl ?_
    exact mj_end rfl rfl (Or.inl rfl) ⟨by rw [vB_f (fun q => q.1 h1)]; rfl, rfl⟩
  · refine mj_b0 40 rfl ?_
    refine mj_br (fun h2 => ?_) (fun h2 => ?_)
    · refine mj_b0 40 rfl ?_
      exact mj_end rfl rfl (Or.inl rfl) ⟨by rw [vB_f (fun q => q.2 h2)]; rfl, rfl⟩
    · refine mj_b0 40 rfl ?_
      exact mj_end rfl rfl (Or.inr rfl) ⟨by rw [vB_t ⟨h1, h2⟩]; rfl, rfl⟩
theorem c_hasSide (c s : Int32) : mj_C (d + 2) nX2_hasSide [.ref 6, .int c, .int s] (fbH sc F S G Y M T C V A Z) (some (.int (vB ((¬ c < 0 ∧ ¬ gcl G ≤ c) ∧ ¬ s < 0 ∧ ¬ gsd G ≤ s)))) (fbH sc F S G Y M T C V A Z) := by
  refine mj_C.of rfl rfl rfl ?_
  refine mj_b0 40 rfl ?_
  refine mj_cV rfl rfl rfl rfl rfl rfl (c_has c) ?_
  refine mj_b0 40 rfl ?_
  refine mj_br (fun h0 => ?_) (fun h0 => ?_)
  · refine mj_b0 40 rfl ?_
    exact mj_end rfl rfl (Or.inl rfl) ⟨by rw [vB_f (fun q => vB_0.mp h0 q.1)]; rfl, rfl⟩
  · have h0 := Decidable.not_not.mp (fun q => h0 (vB_0.mpr q))
    refine mj_b0 40 rfl ?_
    refine mj_br (fun h1 => ?_) (fun h1 => ?_)
    · refine mj_b0 40 rfl ?_
      exact mj_end rfl rfl (Or.inl rfl) ⟨by rw [vB_f (fun q => q.2.1 h1)]; rfl, rfl⟩
    · refine mj_b0 40 rfl ?_
      refine mj_br (fun h2 => ?_) (fun h2 => ?_)
      · refine mj_b0 40 rfl ?_
        exact mj_end rfl rfl (Or.inl rfl) ⟨by rw [vB_f (fun q => q.2.2 h2)]; rfl, rfl⟩
      · refine mj_b0 40 rfl ?_
        exact mj_end rfl rfl (Or.inr rfl) ⟨by rw [vB_t ⟨h0, h1, h2⟩]; rfl, rfl⟩
/-- the first side from k on at which a number stands -/
def sdTo (f : Nat → Int32) (o : Int32) : Nat → Nat → Int32
  | 0, _ => -1000000
  | j + 1, k => if f k = o then nI k else sdTo f o j (k + 1)
end GR
