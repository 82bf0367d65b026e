/-! the calls and the methods: by the kernel -/
def mj_kcal (own : Nat) (e : Nat × (Nat × Nat × Nat)) : Bool := match mj_nth mj_yb e.2.2.1, mj_nth mj_tab e.2.2.1 with
  | some q, some t => decide ((parseMethodDescriptor q.1.desc).map (fun d => d.parameters.length) = some e.2.2.2) && (mj_isw (.initialized q.1.cls) && (match e.2.1 with
    | 0 => mj_isw (.methodLink (mj_nm own) e.1 q.1) && mj_isw (.static q.1)
    | 1 => mj_isw (.methodLink (mj_nm own) e.1 q.1) && (mj_isw (.instanceMethod q.1) && (mj_isw (.selects q.1.cls q.1 q.1) && decide (t.1 < 10)))
    | 2 => mj_isw (.methodLink (mj_nm own) e.1 q.1) && (mj_isw (.instanceMethod q.1) && (decide (q.1.name = "<init>") && decide (t.2.2.2.1 = none)))
    | 3 => decide (Cond.methodLinkNest (mj_nm own) e.1 q.1 RX8 ∈ [Cond.methodLinkNest RX8 18 yX2_init RX8, Cond.methodLinkNest RX8 41 yX6_init RX8]) && (mj_isw (.instanceMethod q.1) && (decide (q.1.name = "<init>") && decide (t.2.2.2.1 = none)))
    | _ => false))
  | _, _ => false
set_option maxRecDepth 100000 in
theorem mj_kcal_0 : (mj_row mj_calT 0).all (mj_kcal 0) = true := by decide +kernel
set_option maxRecDepth 100000 in
theorem mj_kcal_1 : (mj_row mj_calT 1).all (mj_kcal 1) = true := by decide +kernel
set_option maxRecDepth 100000 in
theorem mj_kcal_2 : (mj_row mj_calT 2).all (mj_kcal 2) = true := by decide +kernel
set_option maxRecDepth 100000 in
theorem mj_kcal_3 : (mj_row mj_calT 3).all (mj_kcal 3) = true := by decide +kernel
set_option maxRecDepth 100000 in
theorem mj_kcal_4 : (mj_row mj_calT 4).all (mj_kcal 4) = true := by decide +kernel
set_option maxRecDepth 100000 in
theorem mj_kcal_5 : (mj_row mj_calT 5).all (mj_kcal 5) = true := by decide +kernel
set_option maxRecDepth 100000 in
theorem mj_kcal_6 : (mj_row mj_calT 6).all (mj_kcal 6) = true := by decide +kernel
set_option maxRecDepth 100000 in
theorem mj_kcal_7 : (mj_row mj_calT 7).all (mj_kcal 7) = true := by decide +kernel
set_option maxRecDepth 100000 in
theorem mj_kcal_8 : (mj_row mj_calT 8).all (mj_kcal 8) = true := by decide +kernel
set_option maxRecDepth 100000 in
theorem mj_kcal_9 : (mj_row mj_calT 9).all (mj_kcal 9) = true := by decide +kernel
set_option maxRecDepth 100000 in
theorem mj_kcal_10 : (mj_row mj_calT 10).all (mj_kcal 10) = true := by decide +kernel
set_option maxRecDepth 100000 in
theorem mj_kcal_11 : (mj_row mj_calT 11).all (mj_kcal 11) = true := by decide +kernel
set_option maxRecDepth 100000 in
theorem mj_kcal_12 : (mj_row mj_calT 12).all (mj_kcal 12) = true := by decide +kernel
theorem mj_kcal_ok {own idx kd y n : Nat} (h : (idx, (kd, y, n)) ∈ mj_row mj_calT own) : mj_kcal own (idx, (kd, y, n)) = true := by
  match own, h with
  | 0, h => exact List.all_eq_true.mp mj_kcal_0 _ h
  | 1, h => exact List.all_eq_true.mp mj_kcal_1 _ h
  | 2, h => exact List.all_eq_true.mp mj_kcal_2 _ h
  | 3, h => exact List.all_eq_true.mp mj_kcal_3 _ h
  | 4, h => exact List.all_eq_true.mp mj_kcal_4 _ h
  | 5, h => exact List.all_eq_true.mp mj_kcal_5 _ h
  | 6, h => exact List.all_eq_true.mp mj_kcal_6 _ h
  | 7, h => exact List.all_eq_true.mp mj_kcal_7 _ h
  | 8, h => exact List.all_eq_true.mp mj_kcal_8 _ h
  | 9, h => exact List.all_eq_true.mp mj_kcal_9 _ h
  | 10, h => exact List.all_eq_true.mp mj_kcal_10 _ h
  | 11, h => exact List.all_eq_true.mp mj_kcal_11 _ h
  | 12, h => exact List.all_eq_true.mp mj_kcal_12 _ h
  | own + 13, h => exact absurd h (by simp [mj_calT, mj_row])
theorem mj_nest_ok : (∀ w ∈ [Cond.methodLinkNest RX8 18 yX2_init RX8, Cond.methodLinkNest RX8 41 yX6_init RX8], w ∈ lw_tbl) := by decide +kernel
/-- a method's own facts; the law's (number nL_law) stands in no table -/
def mj_kmet (y : Nat) : Bool := match mj_nth mj_yb y, mj_nth mj_tab y with
  | some q, some t => mj_isw (.code q.1 q.2 t.2.1 t.2.2.2.1) && (plainName q.1.cls && (decide (q.1.cls = mj_nm t.1) && (decide (t.2.1 ≤ 20) && (!t.2.2.1 || decide (q.1.name = "<init>")) && (decide (q.1.cls ≠ "java/lang/invoke/MethodHandle") && decide (q.1.cls ≠ "java/lang/invoke/VarHandle")))))
  | _, _ => false
set_option maxRecDepth 100000 in
theorem mj_kmet_0 : ((List.range 25).all fun k => decide (k + 0 = nL_law) || mj_kmet (k + 0)) = true := by decide +kernel
set_option maxRecDepth 100000 in
theorem mj_kmet_25 : ((List.range 25).all fun k => decide (k + 25 = nL_law) || mj_kmet (k + 25)) = true := by decide +kernel
set_option maxRecDepth 100000 in
theorem mj_kmet_50 : ((List.range 25).all fun k => decide (k + 50 = nL_law) || mj_kmet (k + 50)) = true := by decide +kernel
set_option maxRecDepth 100000 in
theorem mj_kmet_75 : ((List.range 25).all fun k => decide (k + 75 = nL_law) || mj_kmet (k + 75)) = true := by decide +kernel
set_option maxRecDepth 100000 in
theorem mj_kmet_100 : ((List.range 25).all fun k => decide (k + 100 = nL_law) || mj_kmet (k + 100)) = true := by decide +kernel
set_option maxRecDepth 100000 in
theorem mj_kmet_125 : ((List.range 25).all fun k => decide (k + 125 = nL_law) || mj_kmet (k + 125)) = true := by decide +kernel
set_option maxRecDepth 100000 in
theorem mj_kmet_150 : ((List.range 25).all fun k => decide (k + 150 = nL_law) || mj_kmet (k + 150)) = true := by decide +kernel
set_option maxRecDepth 100000 in
theorem mj_kmet_175 : ((List.range 25).all fun k => decide (k + 175 = nL_law) || mj_kmet (k + 175)) = true := by decide +kernel
set_option maxRecDepth 100000 in
theorem mj_kmet_200 : ((List.range 3).all fun k => decide (k + 200 = nL_law) || mj_kmet (k + 200)) = true := by decide +kernel
theorem mj_kmet_ok {y : Nat} (hy : y < 203) (hl : y ≠ nL_law) : mj_kmet y = true := by
  by_cases h0 : y < 25
  · have h := List.all_eq_true.mp mj_kmet_0 (y - 0) (List.mem_range.mpr (by omega))
    rw [show y - 0 + 0 = y by omega] at h
    simpa [hl] using h
  by_cases h25 : y < 50
  · have h := List.all_eq_true.mp mj_kmet_25 (y - 25) (List.mem_range.mpr (by omega))
    rw [show y - 25 + 25 = y by omega] at h
    simpa [hl] using h
  by_cases h50 : y < 75
  · have h := List.all_eq_true.mp mj_kmet_50 (y - 50) (List.mem_range.mpr (by omega))
    rw [show y - 50 + 50 = y by omega] at h
    simpa [hl] using h
  by_cases h75 : y < 100
  · have h := List.all_eq_true.mp mj_kmet_75 (y - 75) (List.mem_range.mpr (by omega))
    rw [show y - 75 + 75 = y by omega] at h
    simpa [hl] using h
  by_cases h100 : y < 125
  · have h := List.all_eq_true.mp mj_kmet_100 (y - 100) (List.mem_range.mpr (by omega))
    rw [show y - 100 + 100 = y by omega] at h
    simpa [hl] using h
  by_cases h125 : y < 150
  · have h := List.all_eq_true.mp mj_kmet_125 (y - 125) (List.mem_range.mpr (by omega))
    rw [show y - 125 + 125 = y by omega] at h
    simpa [hl] using h
  by_cases h150 : y < 175
  · have h := List.all_eq_true.mp mj_kmet_150 (y - 150) (List.mem_range.mpr (by omega))
    rw [show y - 150 + 150 = y by omega] at h
    simpa [hl] using h
  by_cases h175 : y < 200
  · have h := List.all_eq_true.mp mj_kmet_175 (y - 175) (List.mem_range.mpr (by omega))
    rw [show y - 175 + 175 = y by omega] at h
    simpa [hl] using h
  by_cases h200 : y < 203
  · have h := List.all_eq_true.mp mj_kmet_200 (y - 200) (List.mem_range.mpr (by omega))
    rw [show y - 200 + 200 = y by omega] at h
    simpa [hl] using h
  omega
