/-! the small machine's cells and locals, and the heap's -/
theorem mj_nth_eq {α : Type} : ∀ (l : List α) (n : Nat), mj_nth l n = l[n]?
  | [], n => by simp [mj_nth]
  | a :: l, 0 => by simp [mj_nth]
  | a :: l, n + 1 => by simp [mj_nth, mj_nth_eq l n]
theorem mj_ld_eq {α : Type} : ∀ (l : List (Option α)) (n : Nat), mj_ld l n = (l[n]?).join
  | [], n => by simp [mj_ld]
  | a :: l, 0 => by simp [mj_ld]
  | a :: l, n + 1 => by simp [mj_ld, mj_ld_eq l n]
theorem mj_blt {a b : Nat} (h : Nat.blt a b = true) : a < b := Nat.le_of_ble_eq_true h
theorem mj_lk_mem {α : Type} : ∀ (l : List (Nat × α)) (n : Nat) (a : α), mj_lk l n = some a → (n, a) ∈ l
  | [], n, a, h => by cases h
  | (k, b) :: l, n, a, h => by
    unfold mj_lk at h
    cases hk : Nat.beq k n with
    | true =>
      rw [hk] at h
      have e := Nat.eq_of_beq_eq_true hk
      cases h
      subst e
      exact List.mem_cons_self
    | false =>
      rw [hk] at h
      exact List.mem_cons_of_mem _ (mj_lk_mem l n a h)
theorem mj_row_lt {α : Type} : ∀ (T : List (List α)) (o : Nat) (e : α), e ∈ mj_row T o → o < T.length
  | [], o, e, h => by simp [mj_row] at h
  | a :: T, 0, e, h => by simp
  | a :: T, o + 1, e, h => by
    have := mj_row_lt T o e h
    simp; omega
theorem mj_range {α : Type} {T : List (List α)} {f : Nat → α → Bool} {n : Nat} (hT : T.length ≤ n) (h : ((List.range n).all fun o => (mj_row T o).all (f o)) = true) {o : Nat} {e : α} (he : e ∈ mj_row T o) : f o e = true :=
  List.all_eq_true.mp (List.all_eq_true.mp h o (List.mem_range.mpr (Nat.lt_of_lt_of_le (mj_row_lt T o e he) hT))) e he
/-- addresses: place 0 is the script's, the others stand in a row from base on -/
def mj_ad (b base : Nat) : Nat → Nat
  | 0 => b
  | k + 1 => base + k
def mj_v (ad : Nat → Nat) (v : Value) : Value := match v with
  | .ref k => .ref (ad k)
  | .int x => .int x
  | .long x => .long x
  | .float x => .float x
  | .double x => .double x
  | .null => .null
  | .retAddr x => .retAddr x
theorem mj_v_cat (ad : Nat → Nat) (v : Value) : (mj_v ad v).category = v.category := by cases v <;> rfl
theorem mj_cat_map (ad : Nat → Nat) : ∀ st : List Value, ((st.map (mj_v ad)).map fun v => v.category).sum = mj_cat st
  | [] => rfl
  | v :: r => by simp [mj_cat, mj_v_cat, ← mj_cat_map ad r]
def mj_e (cy : Nat → ClassId) (ad : Nat → Nat) (e : mj_E) : va_E := match e with
  | .inl (t, n, .inl f) => .inl (cy t, n, .inl f)
  | .inl (t, n, .inr f) => .inl (cy t, n, .inr (.inl f))
  | .inr (c, fs) => .inr (c, fs.map (mj_v ad))
def mj_wl (cy : Nat → ClassId) (ad : Nat → Nat) (base : Nat) : Nat → mj_H → va_W
  | _, [] => []
  | k, e :: t => (base + k, mj_e cy ad e) :: mj_wl cy ad base (k + 1) t
def mj_ws (cy : Nat → ClassId) (b base : Nat) (h : mj_H) : va_W := mj_wl cy (mj_ad b base) base 0 (h.drop 1)
theorem mj_wl_get (cy : Nat → ClassId) (ad : Nat → Nat) (base : Nat) : ∀ (t : mj_H) (k i : Nat), (mj_wl cy ad base k t)[i]? = (t[i]?).map fun e => (base + (k + i), mj_e cy ad e)
  | [], k, i => by simp [mj_wl]
  | e :: t, k, 0 => by simp [mj_wl]
  | e :: t, k, i + 1 => by
    simp only [mj_wl, List.getElem?_cons_succ, mj_wl_get cy ad base t (k + 1) i]
    rw [show k + 1 + i = k + (i + 1) by omega]
theorem mj_wl_set (cy : Nat → ClassId) (ad : Nat → Nat) (base : Nat) : ∀ (t : mj_H) (k i : Nat) (e : mj_E), mj_wl cy ad base k (t.set i e) = (mj_wl cy ad base k t).set i (base + (k + i), mj_e cy ad e)
  | [], k, i, e => by simp [mj_wl]
  | a :: t, k, 0, e => by simp [mj_wl]
  | a :: t, k, i + 1, e => by
    simp only [List.set_cons_succ, mj_wl, mj_wl_set cy ad base t (k + 1) i e]
    rw [show k + 1 + i = k + (i + 1) by omega]
theorem mj_wl_app (cy : Nat → ClassId) (ad : Nat → Nat) (base : Nat) : ∀ (t : mj_H) (k : Nat) (e : mj_E), mj_wl cy ad base k (t ++ [e]) = mj_wl cy ad base k t ++ [(base + (k + t.length), mj_e cy ad e)]
  | [], k, e => by simp [mj_wl]
  | a :: t, k, e => by
    simp only [List.cons_append, mj_wl, mj_wl_app cy ad base t (k + 1) e, List.length_cons]
    rw [show k + 1 + t.length = k + (t.length + 1) by omega]
theorem mj_ws_get {cy : Nat → ClassId} {b base : Nat} {h : mj_H} {a : Nat} {e : mj_E} (ha : mj_nth h (a + 1) = some e) : (mj_ws cy b base h)[a]? = some (mj_ad b base (a + 1), mj_e cy (mj_ad b base) e) := by
  rw [mj_nth_eq] at ha
  cases h with
  | nil => simp at ha
  | cons x t =>
    simp only [List.getElem?_cons_succ] at ha
    simp [mj_ws, mj_wl_get, ha, mj_ad]
theorem mj_ws_set {cy : Nat → ClassId} {b base : Nat} {h : mj_H} {a : Nat} {e : mj_E} : mj_ws cy b base (h.set (a + 1) e) = (mj_ws cy b base h).set a (mj_ad b base (a + 1), mj_e cy (mj_ad b base) e) := by
  cases h with
  | nil => simp [mj_ws, mj_wl]
  | cons x t => simp [mj_ws, mj_wl_set, mj_ad]
theorem mj_ws_app {cy : Nat → ClassId} {b base : Nat} {h : mj_H} {e : mj_E} (h0 : 0 < h.length) : mj_ws cy b base (h ++ [e]) = mj_ws cy b base h ++ [(mj_ad b base h.length, mj_e cy (mj_ad b base) e)] := by
  cases h with
  | nil => simp at h0
  | cons x t => simp [mj_ws, mj_wl_app, mj_ad]
theorem mj_ws_D {cy : Nat → ClassId} {b base : Nat} {h : mj_H} : va_D (fun q => base ≤ q) (mj_ws cy b base h) := by
  refine ⟨fun i j p q hi hj hpq => ?_, fun k q hk => ?_⟩
  · rw [mj_ws, mj_wl_get] at hi hj
    obtain ⟨x, -, rfl⟩ := Option.map_eq_some_iff.mp hi
    obtain ⟨y, -, rfl⟩ := Option.map_eq_some_iff.mp hj
    simp at hpq
    exact hpq
  · rw [mj_ws, mj_wl_get] at hk
    obtain ⟨x, -, rfl⟩ := Option.map_eq_some_iff.mp hk
    simp
def mj_tys (cy : Nat → ClassId) : List (ClassId × FieldType) := [(cy 0, .int), (cy 1, .byte), (cy 2, .boolean), (cy 3, .long)]
def mj_Kn (D : va_G) (cy : Nat → ClassId) (U : State) : Prop := va_K D vwCl (mj_tys cy) U ∧ va_Nw (.methodLinkNest RX8 18 yX2_init RX8) U ∧ va_Nw (.methodLinkNest RX8 41 yX6_init RX8) U ∧ (U.vm.findClass ("[" ++ FieldType.int.toString) = some (cy 0) ∧ U.vm.findClass ("[" ++ FieldType.byte.toString) = some (cy 1) ∧ U.vm.findClass ("[" ++ FieldType.boolean.toString) = some (cy 2) ∧ U.vm.findClass ("[" ++ FieldType.long.toString) = some (cy 3))
theorem mj_Kn.moved {D : va_G} {cy : Nat → ClassId} {s U : State} (hW : s.WarmedH U.vm) (h : mj_Kn D cy s) : mj_Kn D cy U := by
  obtain ⟨h1, h2, h3, h4, h5, h6, h7⟩ := h
  have hv := hW.alike
  exact ⟨va_K.moved hv h1, va_Nw.warmM hW h2, va_Nw.warmM hW h3, by rw [hv.findClass]; exact h4, by rw [hv.findClass]; exact h5, by rw [hv.findClass]; exact h6, by rw [hv.findClass]; exact h7⟩
/-- the heap holds the cells; the script stands where it stood -/
def mj_Rep (D : va_G) (cy : Nat → ClassId) (b base L : Nat) (xs : Nat → Int32) (U : State) (h : mj_H) (H : Heap) : Prop :=
  va_P D vwCl (mj_ws cy b base h) H ∧ va_X b L xs U H ∧ mj_nth h 0 = some (.inl (9, L, .inl xs)) ∧ b < base
theorem mj_Rep.moved {D : va_G} {cy : Nat → ClassId} {b base L : Nat} {xs : Nat → Int32} {s U : State} {h : mj_H} {H : Heap} (hv : s.vm.Alike U.vm) (r : mj_Rep D cy b base L xs s h H) : mj_Rep D cy b base L xs U h H := ⟨r.1, va_X.moved hv r.2.1, r.2.2⟩
theorem mj_Rep.pos {D : va_G} {cy : Nat → ClassId} {b base L : Nat} {xs : Nat → Int32} {s : State} {h : mj_H} {H : Heap} (r : mj_Rep D cy b base L xs s h H) : 0 < h.length := by
  have h0 := r.2.2.1
  cases h with
  | nil => cases h0
  | cons a t => simp
/-- locals -/
def mj_L (ad : Nat → Nat) (ls : List (Option Value)) (LS : Array Slot) (nL : Nat) : Prop := ls.length = nL ∧ LS.size = nL ∧ lv_wf LS ∧ ∀ (j : Nat) (w : Value), mj_ld ls j = some w → LS[j]? = some (.val (mj_v ad w))
def mj_as (ad : Nat → Nat) (ls : List (Option Value)) : List (Nat × Value) := (List.range ls.length).filterMap fun j => (mj_ld ls j).map fun w => (j, mj_v ad w)
theorem mj_ld_lt {α : Type} {ls : List (Option α)} {j : Nat} {w : α} (h : mj_ld ls j = some w) : j < ls.length := by
  rw [mj_ld_eq] at h
  cases hq : ls[j]? with
  | none => rw [hq] at h; cases h
  | some x => exact (List.getElem?_eq_some_iff.mp hq).1
theorem mj_as_mem {ad : Nat → Nat} {ls : List (Option Value)} {j : Nat} {w : Value} (h : mj_ld ls j = some w) : (j, mj_v ad w) ∈ mj_as ad ls :=
  List.mem_filterMap.mpr ⟨j, List.mem_range.mpr (mj_ld_lt h), by rw [h]; rfl⟩
theorem mj_L.has {ad : Nat → Nat} {ls : List (Option Value)} {LS : Array Slot} {nL : Nat} (h : mj_L ad ls LS nL) : lv_has LS nL (mj_as ad ls) := by
  refine ⟨h.2.1, h.2.2.1, fun q hq => ?_⟩
  obtain ⟨j, -, hj⟩ := List.mem_filterMap.mp hq
  obtain ⟨w, hw, rfl⟩ := Option.map_eq_some_iff.mp hj
  exact h.2.2.2 j w hw
theorem mj_ld_set {ls : List (Option Value)} {i j : Nat} {v : Option Value} {w : Value} (h : mj_ld (ls.set i v) j = some w) : (j = i ∧ v = some w) ∨ (j ≠ i ∧ mj_ld ls j = some w) := by
  rw [mj_ld_eq, List.getElem?_set] at h
  by_cases hij : i = j
  · subst hij
    rw [if_pos rfl] at h
    by_cases hl : i < ls.length
    · rw [if_pos hl] at h
      exact Or.inl ⟨rfl, h⟩
    · rw [if_neg hl] at h
      cases h
  · rw [if_neg hij] at h
    exact Or.inr ⟨fun e => hij e.symm, by rw [mj_ld_eq]; exact h⟩
theorem mj_cl_len (ls : List (Option Value)) (i : Nat) : (mj_cl ls i).length = ls.length := by
  cases i with
  | zero => rfl
  | succ j =>
    rw [mj_cl]
    split
    · exact List.length_set
    · exact List.length_set
    · rfl
theorem mj_cl_ld {ls : List (Option Value)} {i j : Nat} {w : Value} (h : mj_ld (mj_cl ls i) j = some w) : mj_ld ls j = some w ∧ ¬ (j + 1 = i ∧ w.category = 2) := by
  cases i with
  | zero => exact ⟨h, fun q => by omega⟩
  | succ k =>
    rw [mj_cl] at h
    split at h
    · rcases mj_ld_set h with ⟨-, q⟩ | ⟨q1, q2⟩
      · cases q
      · exact ⟨q2, fun q => q1 (by omega)⟩
    · rcases mj_ld_set h with ⟨-, q⟩ | ⟨q1, q2⟩
      · cases q
      · exact ⟨q2, fun q => q1 (by omega)⟩
    · next n1 n2 =>
      refine ⟨h, fun q => ?_⟩
      obtain ⟨q1, q2⟩ := q
      have e : j = k := by omega
      subst e
      cases w with
      | long x => exact n1 x h
      | double x => exact n2 x h
      | _ => simp [Value.category] at q2
theorem mj_L.st1 {ad : Nat → Nat} {ls ls' : List (Option Value)} {LS LS' : Array Slot} {nL i : Nat} {v : Value} (h : mj_L ad ls LS nL) (hs : mj_st1 ls i v = some ls') (h' : lv_has LS' nL ((i, mj_v ad v) :: (mj_as ad ls).filter (fun q => !(q.1 == i) && !(q.1 + 1 == i && q.2.category == 2)))) : mj_L ad ls' LS' nL := by
  unfold mj_st1 at hs
  cases hb : Nat.blt i ls.length with
  | false => rw [hb] at hs; cases hs
  | true =>
    rw [hb] at hs
    cases hs
    refine ⟨by rw [List.length_set, mj_cl_len]; exact h.1, h'.1, h'.2.1, fun j w hj => ?_⟩
    rcases mj_ld_set hj with ⟨rfl, q⟩ | ⟨q1, q2⟩
    · cases q
      exact h'.2.2 (j, mj_v ad v) List.mem_cons_self
    · obtain ⟨a1, a2⟩ := mj_cl_ld q2
      refine h'.2.2 (j, mj_v ad w) (List.mem_cons_of_mem _ (List.mem_filter.mpr ⟨mj_as_mem a1, ?_⟩))
      simp only [mj_v_cat, Bool.and_eq_true, Bool.not_eq_true', beq_eq_false_iff_ne, ne_eq, Bool.and_eq_false_iff]
      refine ⟨q1, ?_⟩
      by_cases c : j + 1 = i
      · exact Or.inr fun z => a2 ⟨c, z⟩
      · exact Or.inl c
theorem mj_st1_lt {ls ls' : List (Option Value)} {i : Nat} {v : Value} (hs : mj_st1 ls i v = some ls') : i < ls.length := by
  unfold mj_st1 at hs
  cases hb : Nat.blt i ls.length with
  | false => rw [hb] at hs; cases hs
  | true => exact mj_blt hb
theorem mj_st2_lt {ls ls' : List (Option Value)} {i : Nat} {v : Value} (hs : mj_st2 ls i v = some ls') : i + 1 < ls.length := by
  unfold mj_st2 at hs
  cases hb : Nat.blt (i + 1) ls.length with
  | false => rw [hb] at hs; cases hs
  | true => exact mj_blt hb
theorem mj_L.st2 {ad : Nat → Nat} {ls ls' : List (Option Value)} {LS LS' : Array Slot} {nL i : Nat} {v : Value} (h : mj_L ad ls LS nL) (hs : mj_st2 ls i v = some ls') (h' : lv_has LS' nL ((i, mj_v ad v) :: (mj_as ad ls).filter (fun q => !(q.1 == i) && (!(q.1 == i + 1) && !(q.1 + 1 == i && q.2.category == 2))))) : mj_L ad ls' LS' nL := by
  unfold mj_st2 at hs
  cases hb : Nat.blt (i + 1) ls.length with
  | false => rw [hb] at hs; cases hs
  | true =>
    rw [hb] at hs
    cases hs
    refine ⟨by rw [List.length_set, List.length_set, mj_cl_len]; exact h.1, h'.1, h'.2.1, fun j w hj => ?_⟩
    rcases mj_ld_set hj with ⟨-, q⟩ | ⟨q0, hj⟩
    · cases q
    rcases mj_ld_set hj with ⟨rfl, q⟩ | ⟨q1, q2⟩
    · cases q
      exact h'.2.2 (j, mj_v ad v) List.mem_cons_self
    · obtain ⟨a1, a2⟩ := mj_cl_ld q2
      refine h'.2.2 (j, mj_v ad w) (List.mem_cons_of_mem _ (List.mem_filter.mpr ⟨mj_as_mem a1, ?_⟩))
      simp only [mj_v_cat, Bool.and_eq_true, Bool.not_eq_true', beq_eq_false_iff_ne, ne_eq, Bool.and_eq_false_iff]
      refine ⟨q1, q0, ?_⟩
      by_cases c : j + 1 = i
      · exact Or.inr fun z => a2 ⟨c, z⟩
      · exact Or.inl c
/-- how much the cells hold -/
def mj_sz1 (e : mj_E) : Nat := match e with
  | .inl (_, n, _) => n
  | .inr (_, fs) => fs.length
def mj_sz : mj_H → Nat
  | [] => 0
  | e :: t => mj_sz1 e + mj_sz t
theorem mj_sz_set : ∀ (h : mj_H) (a : Nat) (e e' : mj_E), mj_nth h a = some e → mj_sz1 e' = mj_sz1 e → mj_sz (h.set a e') = mj_sz h
  | [], a, e, e', h1, _ => by cases h1
  | x :: t, 0, e, e', h1, h2 => by cases h1; simp [mj_sz, h2]
  | x :: t, a + 1, e, e', h1, h2 => by simp [mj_sz, mj_sz_set t a e e' h1 h2]
theorem mj_sz_app : ∀ (h : mj_H) (e : mj_E), mj_sz (h ++ [e]) = mj_sz h + mj_sz1 e
  | [], e => by simp [mj_sz]
  | x :: t, e => by simp [mj_sz, mj_sz_app t e]; omega
theorem mj_j_eq {pc t : Nat} {off : Int} (h : mj_j pc off = some t) : (pc : Int) + off = (t : Int) := by
  unfold mj_j at h
  split at h
  · cases h; simp
  · next n =>
    cases hb : Nat.ble (n + 1) pc with
    | false => rw [hb] at h; cases h
    | true =>
      rw [hb] at h
      cases h
      have := Nat.le_of_ble_eq_true hb
      omega
