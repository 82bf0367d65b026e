/-! one instruction of the small machine is one of the machine's -/
section MS
variable {p : Program} {l : Launch} {e : Env} {R : Room} {s : State} {m : MethodId} {args : Array Value} {below : List Frame} {meth : Method} {c : Code} {Q : State → Prop}
variable {cc : ByteArray} {D : va_G} {cy : Nat → ClassId} {b base L : Nat} {xs : Nat → Int32} {own : Nat} {ini : Bool} {nL n0 z0 : Nat}
/-- what stands fast in a method's body -/
def mj_Fix (p : Program) (R : Room) (s : State) (m : MethodId) (args : Array Value) (meth : Method) (c : Code) (cc : ByteArray) (D : va_G) (cy : Nat → ClassId) (base own : Nat) (ini : Bool) (nL n0 : Nat) : Prop :=
  p.tables.exec = Jvm.exec ∧ c.code = cc ∧ c.maxLocals = nL ∧ s.vm.findClass (mj_nm own) = some m.cls ∧ (∀ w ∈ mj_T, w.before args s = true) ∧ (ini = true → meth.name = "<init>") ∧ mj_Kn D cy s ∧ (s.heap.size + 1 = base + n0 ∧ 1 ≤ n0) ∧ 1 ≤ R.frames ∧ 40 ≤ R.locals
/-- the machine, from any heap and locals that hold the small machine's state -/
def mj_W (p : Program) (l : Launch) (e : Env) (R : Room) (s : State) (m : MethodId) (args : Array Value) (below : List Frame) (meth : Method) (c : Code) (Q : State → Prop) (D : va_G) (cy : Nat → ClassId) (b base L : Nat) (xs : Nat → Int32) (nL n0 z0 : Nat) (S : mj_S) : Prop :=
  ∀ (H : Heap) (locs : List Loc) (LS : Array Slot), mj_Rep D cy b base L xs s S.2.2.2 H → mj_L (mj_ad b base) S.2.1 LS nL → va_S (fun q => base ≤ q) s.heap H locs →
    W p l e R s m args below meth c H locs (S.2.2.2.length - n0) (mj_sz S.2.2.2 - z0) Q (F0 m S.1 LS (S.2.2.1.map (mj_v (mj_ad b base))))
theorem mj_low {h : mj_H} {H : Heap} {locs : List Loc} (hsz : s.heap.size + 1 = base + n0 ∧ 1 ≤ n0) (hn : n0 ≤ h.length) (hR : mj_Rep D cy b base L xs s h H) (hS : va_S (fun q => base ≤ q) s.heap H locs) : base + h.length ≤ H.size + 1 := by
  by_cases h1 : h.length = 1
  · have := hS.1
    omega
  · have h2 : h.length - 2 + 1 < h.length := by omega
    have h3 : mj_nth h (h.length - 2 + 1) = some h[h.length - 2 + 1] := by rw [mj_nth_eq]; exact List.getElem?_eq_getElem h2
    have h4 := (hR.1 _ _ (mj_ws_get (cy := cy) (b := b) (base := base) h3)).lt
    simp only [mj_ad] at h4
    omega
/-- the heap's size, where it is wanted -/
theorem mj_size {h : mj_H} {H : Heap} {locs : List Loc} {slots : Nat} {g : JFrame} (hsz : s.heap.size + 1 = base + n0 ∧ 1 ≤ n0) (hn : n0 ≤ h.length) (hR : mj_Rep D cy b base L xs s h H) (hS : va_S (fun q => base ≤ q) s.heap H locs)
    (k : H.size + 1 = base + h.length → W p l e R s m args below meth c H locs (h.length - n0) slots Q g) : W p l e R s m args below meth c H locs (h.length - n0) slots Q g := by
  intro T hT X
  have h1 := mj_low hsz hn hR hS
  have h2 : T.heap.size ≤ s.heap.size + (h.length - n0) := X.same.2.2.1
  rw [hT] at h2
  exact k (by omega) T hT X
theorem mj_fit_ok {tg : Nat} {v : Value} {ad : Nat → Nat} {o : Option FieldType} (h1 : mj_fit tg v = true) (h2 : mj_tgk tg o = true) : ∃ ty, o = some ty ∧ narrow ty (mj_v ad v) = mj_v ad v ∧ fits ty (mj_v ad v) = true := by
  unfold mj_fit at h1
  split at h1
  · unfold mj_tgk at h2
    split at h2
    · exact ⟨_, rfl, rfl, rfl⟩
    · next q => cases q
    · next q => cases q
    · cases h2
  · unfold mj_tgk at h2
    split at h2
    · next q => cases q
    · exact ⟨_, rfl, rfl, rfl⟩
    · exact ⟨_, rfl, rfl, rfl⟩
    · cases h2
  · cases h1
theorem mj_zip : ∀ {ws : List Cond} {ps : List Nat}, ps.length = ws.length → (ws.zip ps).all (fun wp => mj_isw wp.2 wp.1) = true → ∀ w ∈ ws, w ∈ mj_T
  | [], _, _, _, w, hw => by cases hw
  | a :: ws, [], h, _, w, hw => by cases h
  | a :: ws, q :: ps, h, hz, w, hw => by
    simp only [List.zip_cons_cons, List.all_cons, Bool.and_eq_true] at hz
    rcases List.mem_cons.mp hw with rfl | hw
    · exact mj_isw_mem hz.1
    · exact mj_zip (Nat.succ.inj h) hz.2 w hw
theorem mj_cls {ci : Nat} {q : vw_C} (h : vwCl[ci]? = some q) : (∀ w ∈ u_ws q.1 q.2.1 q.2.2, w ∈ mj_T) ∧ (∃ ty0 : Nat → FieldType, ∀ k, k < q.2.2 → parseFieldDescriptor (q.2.1 k).2.2.1 = some (ty0 k)) ∧ (∀ a, a < q.2.2 → ∀ b, b < q.2.2 → a ≠ b → (q.2.1 a).2.1 ≠ (q.2.1 b).2.1) ∧ Cond.instantiable q.1 q.2.2 ∈ mj_T ∧ Cond.initialized q.1 ∈ mj_T ∧ q.1 = mj_nm ci ∧ (mj_row mj_dfT ci).length = q.2.2 := by
  have hci : ci < 10 := (List.getElem?_eq_some_iff.mp h).1
  have k := List.all_eq_true.mp mj_kcls_ok ci (List.mem_range.mpr hci)
  rw [h] at k
  cases hp : mj_nth mj_clP ci with
  | none => rw [hp] at k; cases k
  | some pp =>
  rw [hp] at k
  simp only [Bool.and_eq_true, decide_eq_true_eq] at k
  obtain ⟨⟨k0, k1⟩, k2, k3, k4, k5⟩ := k
  refine ⟨mj_zip (by rw [k0]; simp [u_ws]) k1, ?_, ?_, mj_isw_mem k2, mj_isw_mem k3, k4, k5⟩
  · match ci, h with
    | 0, h => cases h; exact ⟨tyX0, tyX0_ok⟩
    | 1, h => cases h; exact ⟨tyX1, tyX1_ok⟩
    | 2, h => cases h; exact ⟨tyX2, tyX2_ok⟩
    | 3, h => cases h; exact ⟨tyX3, tyX3_ok⟩
    | 4, h => cases h; exact ⟨tyX4, tyX4_ok⟩
    | 5, h => cases h; exact ⟨tyX5, tyX5_ok⟩
    | 6, h => cases h; exact ⟨tyX6, tyX6_ok⟩
    | 7, h => cases h; exact ⟨tyX7, tyX7_ok⟩
    | 8, h => cases h; exact ⟨tyX8, tyX8_ok⟩
    | 9, h => cases h; exact ⟨tyX9, tyX9_ok⟩
    | k + 10, h => omega
  · match ci, h with
    | 0, h => cases h; exact nmX0
    | 1, h => cases h; exact nmX1
    | 2, h => cases h; exact nmX2
    | 3, h => cases h; exact nmX3
    | 4, h => cases h; exact nmX4
    | 5, h => cases h; exact nmX5
    | 6, h => cases h; exact nmX6
    | 7, h => cases h; exact nmX7
    | 8, h => cases h; exact nmX8
    | 9, h => cases h; exact nmX9
    | k + 10, h => omega
theorem mj_fld {idx ci k tg ps : Nat} {fin : Bool} (h : mj_lk (mj_row mj_fldT own) idx = some (ci, k, tg, fin, ps)) : ∃ q : vw_C, vwCl[ci]? = some q ∧ k < q.2.2 ∧ (q.2.1 k).1 = q.1 ∧ q.1 = mj_nm ci ∧ (q.2.1 k).2.2.2 = fin ∧ Cond.fieldLink (mj_nm own) idx (q.2.1 k).1 (q.2.1 k).2.1 (q.2.1 k).2.2.1 ∈ mj_T ∧ mj_tgk tg (parseFieldDescriptor (q.2.1 k).2.2.1) = true := by
  have k1 := mj_range (f := mj_kfld) (by decide) mj_kfld_ok (mj_lk_mem _ _ _ h)
  unfold mj_kfld at k1
  dsimp only at k1
  cases hq : vwCl[ci]? with
  | none => rw [hq] at k1; cases k1
  | some q =>
    rw [hq] at k1
    simp only [Bool.and_eq_true, decide_eq_true_eq] at k1
    obtain ⟨a1, a2, a3, a4, a5, a6⟩ := k1
    exact ⟨q, rfl, a1, a2, a3, a4, mj_isw_mem a5, a6⟩
/-- of a cell that isn't the script -/
theorem mj_pos {h : mj_H} {H : Heap} {a : Nat} {e : mj_E} (hR : mj_Rep D cy b base L xs s h H) (ha : mj_nth h a = some e) (hne : e ≠ .inl (9, L, .inl xs)) : ∃ a', a = a' + 1 := by
  cases a with
  | zero => exact absurd (Option.some.inj (ha.symm.trans hR.2.2.1)) hne
  | succ a' => exact ⟨a', rfl⟩
theorem mj_nth0_set {h : mj_H} {a : Nat} {e e' : mj_E} (h0 : mj_nth h 0 = some e) : mj_nth (h.set (a + 1) e') 0 = some e := by
  cases h with
  | nil => cases h0
  | cons x t => exact h0
theorem mj_Rep.put {h : mj_H} {H H1 : Heap} {locs1 : List Loc} {a : Nat} {e' : mj_E} (hR : mj_Rep D cy b base L xs s h H) (hS1 : va_S (fun q => base ≤ q) s.heap H1 locs1) (hS : ∃ locs, va_S (fun q => base ≤ q) s.heap H locs) (hbs : b < s.heap.size) (hP : va_P D vwCl ((mj_ws cy b base h).set a (mj_ad b base (a + 1), mj_e cy (mj_ad b base) e')) H1) : mj_Rep D cy b base L xs s (h.set (a + 1) e') H1 := by
  refine ⟨by rw [mj_ws_set]; exact hP, hR.2.1.kept ?_, mj_nth0_set hR.2.2.1, hR.2.2.2⟩
  obtain ⟨locs, hS⟩ := hS
  have hb : ¬ base ≤ b := Nat.not_le.mpr hR.2.2.2
  rw [hS1.2.1 b hbs hb, hS.2.1 b hbs hb]
theorem mj_cbr {cd : ClassFile.Cond} {x y : Int32} {t f : Nat} {P : Nat → Prop} (k : P (cond (mj_cc cd x y) t f)) : (mj_cc cd x y = true → P t) ∧ (mj_cc cd x y = false → P f) := by
  constructor
  · intro h; rw [h] at k; exact k
  · intro h; rw [h] at k; exact k
end MS
