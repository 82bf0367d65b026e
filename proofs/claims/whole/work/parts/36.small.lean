/-! small methods: Sheets', the findings, the model's tests -/
theorem lg_lt0 (x y : Int64) : lg_cmp x y < 0 ↔ x < y := by
  unfold lg_cmp
  by_cases h1 : y < x
  · rw [if_pos h1]
    exact ⟨fun q => absurd q (by decide), fun q => absurd h1 (lg_lt_not q)⟩
  · rw [if_neg h1]
    by_cases h2 : x = y
    · subst h2
      rw [if_pos rfl]
      exact ⟨fun q => absurd q (by decide), fun q => absurd q h1⟩
    · rw [if_neg h2]
      refine ⟨fun _ => ?_, fun _ => by decide⟩
      rw [Int64.lt_iff_toInt_lt] at h1 ⊢
      have h3 : x.toInt ≠ y.toInt := fun q => h2 (Int64.toInt_inj.mp q)
      omega
theorem lg_gt0 (x y : Int64) : 0 < lg_cmp x y ↔ y < x := by
  unfold lg_cmp
  by_cases h1 : y < x
  · rw [if_pos h1]
    exact ⟨fun _ => h1, fun _ => by decide⟩
  · rw [if_neg h1]
    by_cases h2 : x = y
    · rw [if_pos h2]
      exact ⟨fun q => absurd q (by decide), fun q => absurd q h1⟩
    · rw [if_neg h2]
      exact ⟨fun q => absurd q (by decide), fun q => absurd q h1⟩
theorem i64_lt (x y : Int32) : x.toInt64 < y.toInt64 ↔ x < y := by
  rw [Int64.lt_iff_toInt_lt, Int32.lt_iff_toInt_lt, Int32.toInt_toInt64, Int32.toInt_toInt64]
theorem vB_congr {p q : Prop} [Decidable p] [Decidable q] (h : p ↔ q) : vB p = vB q := by
  by_cases hp : p
  · rw [vB_t hp, vB_t (h.mp hp)]
  · rw [vB_f hp, vB_f (fun z => hp (h.mpr z))]
section SM
variable {h : mj_H} {d : Nat}
theorem m_in (v lo hi : Int64) : mj_C (d + 1) nX9_in [.long v, .long lo, .long hi] h (some (.int (vB (¬ v < lo ∧ ¬ hi < v)))) h := by
  refine mj_C.of rfl rfl rfl ?_
  refine mj_b0 40 rfl ?_
  refine mj_br (fun h1 => ?_) (fun h1 => ?_)
  · refine mj_b0 40 rfl ?_
    exact mj_end rfl rfl (Or.inl rfl) ⟨by rw [vB_f (fun q => q.1 ((lg_lt0 _ _).mp h1))]; rfl, rfl⟩
  · refine mj_b0 40 rfl ?_
    refine mj_br (fun h2 => ?_) (fun h2 => ?_)
    · refine mj_b0 40 rfl ?_
      exact mj_end rfl rfl (Or.inl rfl) ⟨by rw [vB_f (fun q => q.2 ((lg_gt0 _ _).mp h2))]; rfl, rfl⟩
    · refine mj_b0 40 rfl ?_
      exact mj_end rfl rfl (Or.inr rfl) ⟨by rw [vB_t ⟨fun q => h1 ((lg_lt0 _ _).mpr q), fun q => h2 ((lg_gt0 _ _).mpr q)⟩]; rfl, rfl⟩
theorem m_in32 (x lo hi : Int32) {l2 h2 : Int64} (hl : l2 = lo.toInt64) (hh : h2 = hi.toInt64) : mj_C (d + 1) nX9_in [.long x.toInt64, .long l2, .long h2] h (some (.int (vB (¬ x < lo ∧ ¬ hi < x)))) h := by
  have k := m_in (h := h) (d := d) x.toInt64 l2 h2
  rw [vB_congr (q := ¬ x < lo ∧ ¬ hi < x) (by rw [hl, hh, i64_lt, i64_lt])] at k
  exact k
theorem m_isSheet (x : Int32) : mj_C (d + 2) nX9_isSheet [.int x] h (some (.int (vB (¬ x < 0 ∧ ¬ 7 < x)))) h := by
  refine mj_C.of rfl rfl rfl ?_
  refine mj_b0 40 rfl ?_
  refine mj_cS rfl rfl rfl rfl (m_in32 x 0 7 (by decide) (by decide)) ?_
  exact mj_end rfl rfl (vB_01 _) ⟨rfl, rfl⟩
theorem c_shas (x : Int32) : mj_C (d + 1) nX5_has [.ref 2, .int x] h (some (.int (vB (¬ x < 0 ∧ ¬ nI 8 ≤ x)))) h := by
  refine mj_C.of rfl rfl rfl ?_
  refine mj_b0 40 rfl ?_
  refine mj_br (fun h1 => ?_) (fun h1 => ?_)
  · refine mj_b0 40 rfl ?_
    exact mj_end rfl rfl (Or.inl rfl) ⟨by rw [vB_f (fun q => q.1 h1)]; rfl, rfl⟩
  · refine mj_b0 40 rfl ?_
    refine mj_br (fun h2 => ?_) (fun h2 => ?_)
    · refine mj_b0 40 rfl ?_
      exact mj_end rfl rfl (Or.inl rfl) ⟨by rw [vB_f (fun q => q.2 h2)]; rfl, rfl⟩
    · refine mj_b0 40 rfl ?_
      exact mj_end rfl rfl (Or.inr rfl) ⟨by rw [vB_t ⟨h1, h2⟩]; rfl, rfl⟩
end SM
section SM2
variable {sc : mj_E} {F : Int32 × Int32} {S : fA × fA × fA} {G : fG} {Y : fY} {M : fM} {T : fT} {C : fC} {V : fV} {A : fA × Int32} {Z : mj_H} {d : Nat}
theorem c_isMissing {k : Nat} (hk : k < 8) : mj_C (d + 1) nX5_isMissing [.ref 2, .int (nI k)] (fbH sc F S G Y M T C V A Z) (some (.int (vB (S.2.1 k = -(nI 1))))) (fbH sc F S G Y M T C V A Z) := by
  have e1 : (nI k).toNatClampNeg = k := nI_clamp (by omega)
  refine mj_C.of rfl rfl rfl ?_
  refine mj_b1 40 rfl (nI_ix hk (by omega)) ?_
  rw [e1]
  refine mj_br (fun h1 => ?_) (fun h1 => ?_)
  · refine mj_b0 40 rfl ?_
    exact mj_end rfl rfl (Or.inl rfl) ⟨by rw [vB_f (show ¬ S.2.1 k = -(nI 1) from h1)]; rfl, rfl⟩
  · refine mj_b0 40 rfl ?_
    exact mj_end rfl rfl (Or.inr rfl) ⟨by rw [vB_t (show S.2.1 k = -(nI 1) from Decidable.not_not.mp h1)]; rfl, rfl⟩
theorem c_finding (x : Int32) : mj_C (d + 1) nX8_finding [.ref 1, .int x] (fbH sc F S G Y M T C V A Z) (some (.int (-1000010 - x))) (fbH sc (x, F.2) S G Y M T C V A Z) := by
  refine mj_C.of rfl rfl rfl ?_
  refine mj_b0 40 rfl ?_
  exact mj_end rfl rfl trivial ⟨rfl, rfl⟩
theorem c_sound (x : Int32) : mj_C (d + 1) nX8_sound [.ref 1, .int x] (fbH sc F S G Y M T C V A Z) (some (.int x)) (fbH sc (nI 0, F.2) S G Y M T C V A Z) := by
  refine mj_C.of rfl rfl rfl ?_
  refine mj_b0 40 rfl ?_
  exact mj_end rfl rfl trivial ⟨rfl, rfl⟩
theorem c_status : mj_C (d + 1) nX8_status [.ref 1] (fbH sc F S G Y M T C V A Z) (some (.int F.1)) (fbH sc F S G Y M T C V A Z) := by
  refine mj_C.of rfl rfl rfl ?_
  refine mj_b0 40 rfl ?_
  exact mj_end rfl rfl trivial ⟨rfl, rfl⟩
theorem c_fault : mj_C (d + 1) nX8_fault [.ref 1] (fbH sc F S G Y M T C V A Z) (some (.int F.2)) (fbH sc F S G Y M T C V A Z) := by
  refine mj_C.of rfl rfl rfl ?_
  refine mj_b0 40 rfl ?_
  exact mj_end rfl rfl trivial ⟨rfl, rfl⟩
end SM2
