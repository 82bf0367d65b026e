/-! groups of instructions -/
section MG
variable {p : Program} {l : Launch} {e : Env} {R : Room} {s : State} {m : MethodId} {args : Array Value} {below : List Frame} {meth : Method} {c : Code} {Q : State → Prop}
variable {cc : ByteArray} {D : va_G} {cy : Nat → ClassId} {b base L : Nat} {xs : Nat → Int32} {own : Nat} {ini : Bool} {nL n0 z0 : Nat}
variable {pc : Nat} {ls : List (Option Value)} {st : List Value} {h : mj_H} {o : Option Prop} {S' : mj_S}
theorem mj_gpush {n : Nat} {v : Value} (row : ∀ {H : Heap} {locs : List Loc} {cells slots : Nat} {LS : Array Slot} {rest : List Value}, W p l e R s m args below meth c H locs cells slots Q (F0 m (pc + n) LS (mj_v (mj_ad b base) v :: rest)) → W p l e R s m args below meth c H locs cells slots Q (F0 m pc LS rest)) (he : mj_push pc ls st h n v = some (o, S')) (k : mj_W p l e R s m args below meth c Q D cy b base L xs nL n0 z0 S') : mj_W p l e R s m args below meth c Q D cy b base L xs nL n0 z0 (pc, ls, st, h) := by
  unfold mj_push at he
  cases he
  exact fun H locs LS hR hL hS => row (k H locs LS hR hL hS)
theorem mj_gpushc {n : Nat} {v : Int32} {q : Prop} [Decidable q] (row : ∀ {H : Heap} {locs : List Loc} {cells slots : Nat} {LS : Array Slot} {rest : List Value}, q → W p l e R s m args below meth c H locs cells slots Q (F0 m (pc + n) LS (.int v :: rest)) → W p l e R s m args below meth c H locs cells slots Q (F0 m pc LS rest)) (he : cond (decide q) (mj_push pc ls st h n (.int v)) none = some (o, S')) (k : mj_W p l e R s m args below meth c Q D cy b base L xs nL n0 z0 S') : mj_W p l e R s m args below meth c Q D cy b base L xs nL n0 z0 (pc, ls, st, h) := by
  cases hq : decide q with
  | false => rw [hq] at he; cases he
  | true =>
    rw [hq] at he
    unfold mj_push at he
    cases he
    exact fun H locs LS hR hL hS => row (of_decide_eq_true hq) (k H locs LS hR hL hS)
theorem mj_gb32 {f : Int32 → Int32 → Int32} (row : ∀ {H : Heap} {locs : List Loc} {cells slots : Nat} {LS : Array Slot} {rest : List Value} {x y : Int32}, W p l e R s m args below meth c H locs cells slots Q (F0 m (pc + 1) LS (.int (f x y) :: rest)) → W p l e R s m args below meth c H locs cells slots Q (F0 m pc LS (.int y :: .int x :: rest))) (he : mj_b32 pc ls st h f = some (o, S')) (k : mj_W p l e R s m args below meth c Q D cy b base L xs nL n0 z0 S') : mj_W p l e R s m args below meth c Q D cy b base L xs nL n0 z0 (pc, ls, st, h) := by
  unfold mj_b32 at he
  split at he
  · cases he
    exact fun H locs LS hR hL hS => row (k H locs LS hR hL hS)
  · cases he
theorem mj_gd32 {f : Int32 → Int32 → Int32} (row : ∀ {H : Heap} {locs : List Loc} {cells slots : Nat} {LS : Array Slot} {rest : List Value} {x y : Int32}, ¬ y = 0 → W p l e R s m args below meth c H locs cells slots Q (F0 m (pc + 1) LS (.int (f x y) :: rest)) → W p l e R s m args below meth c H locs cells slots Q (F0 m pc LS (.int y :: .int x :: rest))) (he : mj_d32 pc ls st h f = some (o, S')) (ho : mj_ok o) (k : mj_W p l e R s m args below meth c Q D cy b base L xs nL n0 z0 S') : mj_W p l e R s m args below meth c Q D cy b base L xs nL n0 z0 (pc, ls, st, h) := by
  unfold mj_d32 at he
  split at he
  · cases he
    exact fun H locs LS hR hL hS => row ho (k H locs LS hR hL hS)
  · cases he
theorem mj_gb64 {f : Int64 → Int64 → Int64} (row : ∀ {H : Heap} {locs : List Loc} {cells slots : Nat} {LS : Array Slot} {rest : List Value} {x y : Int64}, W p l e R s m args below meth c H locs cells slots Q (F0 m (pc + 1) LS (.long (f x y) :: rest)) → W p l e R s m args below meth c H locs cells slots Q (F0 m pc LS (.long y :: .long x :: rest))) (he : mj_b64 pc ls st h f = some (o, S')) (k : mj_W p l e R s m args below meth c Q D cy b base L xs nL n0 z0 S') : mj_W p l e R s m args below meth c Q D cy b base L xs nL n0 z0 (pc, ls, st, h) := by
  unfold mj_b64 at he
  split at he
  · cases he
    exact fun H locs LS hR hL hS => row (k H locs LS hR hL hS)
  · cases he
theorem mj_gd64 {f : Int64 → Int64 → Int64} (row : ∀ {H : Heap} {locs : List Loc} {cells slots : Nat} {LS : Array Slot} {rest : List Value} {x y : Int64}, ¬ y = 0 → W p l e R s m args below meth c H locs cells slots Q (F0 m (pc + 1) LS (.long (f x y) :: rest)) → W p l e R s m args below meth c H locs cells slots Q (F0 m pc LS (.long y :: .long x :: rest))) (he : mj_d64 pc ls st h f = some (o, S')) (ho : mj_ok o) (k : mj_W p l e R s m args below meth c Q D cy b base L xs nL n0 z0 S') : mj_W p l e R s m args below meth c Q D cy b base L xs nL n0 z0 (pc, ls, st, h) := by
  unfold mj_d64 at he
  split at he
  · cases he
    exact fun H locs LS hR hL hS => row ho (k H locs LS hR hL hS)
  · cases he
theorem mj_gs64 {f : Int64 → Int32 → Int64} (row : ∀ {H : Heap} {locs : List Loc} {cells slots : Nat} {LS : Array Slot} {rest : List Value} {x : Int64} {y : Int32}, W p l e R s m args below meth c H locs cells slots Q (F0 m (pc + 1) LS (.long (f x y) :: rest)) → W p l e R s m args below meth c H locs cells slots Q (F0 m pc LS (.int y :: .long x :: rest))) (he : mj_s64 pc ls st h f = some (o, S')) (k : mj_W p l e R s m args below meth c Q D cy b base L xs nL n0 z0 S') : mj_W p l e R s m args below meth c Q D cy b base L xs nL n0 z0 (pc, ls, st, h) := by
  unfold mj_s64 at he
  split at he
  · cases he
    exact fun H locs LS hR hL hS => row (k H locs LS hR hL hS)
  · cases he
theorem mj_gi2l (hx : p.tables.exec = Jvm.exec) (hb : c.code = cc) (hd : decode cc pc = .ok (.i2l, 1)) (he : mj_i2l pc ls st h = some (o, S')) (k : mj_W p l e R s m args below meth c Q D cy b base L xs nL n0 z0 S') : mj_W p l e R s m args below meth c Q D cy b base L xs nL n0 z0 (pc, ls, st, h) := by
  unfold mj_i2l at he
  split at he
  · cases he
    exact fun H locs LS hR hL hS => lv_i2l hx hb hd rfl (k H locs LS hR hL hS)
  · cases he
theorem mj_gl2i (hx : p.tables.exec = Jvm.exec) (hb : c.code = cc) (hd : decode cc pc = .ok (.l2i, 1)) (he : mj_l2i pc ls st h = some (o, S')) (k : mj_W p l e R s m args below meth c Q D cy b base L xs nL n0 z0 S') : mj_W p l e R s m args below meth c Q D cy b base L xs nL n0 z0 (pc, ls, st, h) := by
  unfold mj_l2i at he
  split at he
  · cases he
    exact fun H locs LS hR hL hS => lv_l2i hx hb hd rfl (k H locs LS hR hL hS)
  · cases he
theorem mj_gi2b (hx : p.tables.exec = Jvm.exec) (hb : c.code = cc) (hd : decode cc pc = .ok (.i2b, 1)) (he : mj_i2b pc ls st h = some (o, S')) (k : mj_W p l e R s m args below meth c Q D cy b base L xs nL n0 z0 S') : mj_W p l e R s m args below meth c Q D cy b base L xs nL n0 z0 (pc, ls, st, h) := by
  unfold mj_i2b at he
  split at he
  · cases he
    exact fun H locs LS hR hL hS => lv_i2b hx hb hd rfl (k H locs LS hR hL hS)
  · cases he
theorem mj_gi2s (hx : p.tables.exec = Jvm.exec) (hb : c.code = cc) (hd : decode cc pc = .ok (.i2s, 1)) (he : mj_i2s pc ls st h = some (o, S')) (k : mj_W p l e R s m args below meth c Q D cy b base L xs nL n0 z0 S') : mj_W p l e R s m args below meth c Q D cy b base L xs nL n0 z0 (pc, ls, st, h) := by
  unfold mj_i2s at he
  split at he
  · cases he
    exact fun H locs LS hR hL hS => lv_i2s hx hb hd rfl (k H locs LS hR hL hS)
  · cases he
theorem mj_gcmp (hx : p.tables.exec = Jvm.exec) (hb : c.code = cc) (hd : decode cc pc = .ok (.lcmp, 1)) (he : mj_lcmp pc ls st h = some (o, S')) (k : mj_W p l e R s m args below meth c Q D cy b base L xs nL n0 z0 S') : mj_W p l e R s m args below meth c Q D cy b base L xs nL n0 z0 (pc, ls, st, h) := by
  unfold mj_lcmp at he
  split at he
  · cases he
    exact fun H locs LS hR hL hS => W.lcmp hx hb hd (k H locs LS hR hL hS)
  · cases he
theorem mj_glodi {n i : Nat} (row : ∀ {H : Heap} {locs : List Loc} {cells slots : Nat} {LS : Array Slot} {rest : List Value} {x : Int32}, LS[i]? = some (.val (.int x)) → W p l e R s m args below meth c H locs cells slots Q (F0 m (pc + n) LS (.int x :: rest)) → W p l e R s m args below meth c H locs cells slots Q (F0 m pc LS rest)) (he : mj_lodi pc ls st h n i = some (o, S')) (k : mj_W p l e R s m args below meth c Q D cy b base L xs nL n0 z0 S') : mj_W p l e R s m args below meth c Q D cy b base L xs nL n0 z0 (pc, ls, st, h) := by
  unfold mj_lodi at he
  split at he
  · next hv =>
    cases he
    exact fun H locs LS hR hL hS => row (hL.2.2.2 _ _ hv) (k H locs LS hR hL hS)
  · cases he
theorem mj_glodl {n i : Nat} (row : ∀ {H : Heap} {locs : List Loc} {cells slots : Nat} {LS : Array Slot} {rest : List Value} {x : Int64}, LS[i]? = some (.val (.long x)) → W p l e R s m args below meth c H locs cells slots Q (F0 m (pc + n) LS (.long x :: rest)) → W p l e R s m args below meth c H locs cells slots Q (F0 m pc LS rest)) (he : mj_lodl pc ls st h n i = some (o, S')) (k : mj_W p l e R s m args below meth c Q D cy b base L xs nL n0 z0 S') : mj_W p l e R s m args below meth c Q D cy b base L xs nL n0 z0 (pc, ls, st, h) := by
  unfold mj_lodl at he
  split at he
  · next hv =>
    cases he
    exact fun H locs LS hR hL hS => row (hL.2.2.2 _ _ hv) (k H locs LS hR hL hS)
  · cases he
theorem mj_gloda {n i : Nat} (row : ∀ {H : Heap} {locs : List Loc} {cells slots : Nat} {LS : Array Slot} {rest : List Value} {x : Nat}, LS[i]? = some (.val (.ref x)) → W p l e R s m args below meth c H locs cells slots Q (F0 m (pc + n) LS (.ref x :: rest)) → W p l e R s m args below meth c H locs cells slots Q (F0 m pc LS rest)) (he : mj_loda pc ls st h n i = some (o, S')) (k : mj_W p l e R s m args below meth c Q D cy b base L xs nL n0 z0 S') : mj_W p l e R s m args below meth c Q D cy b base L xs nL n0 z0 (pc, ls, st, h) := by
  unfold mj_loda at he
  split at he
  · next hv =>
    cases he
    exact fun H locs LS hR hL hS => row (hL.2.2.2 _ _ hv) (k H locs LS hR hL hS)
  · cases he
theorem mj_gstoi {n i : Nat} (row : ∀ {H : Heap} {locs : List Loc} {cells slots : Nat} {LS : Array Slot} {rest : List Value} {x : Int32} {lv : List (Nat × Value)}, lv_has LS nL lv → i < nL → (∀ LS' : Array Slot, lv_has LS' nL ((i, Value.int x) :: lv.filter (fun q => !(q.1 == i) && !(q.1 + 1 == i && q.2.category == 2))) → W p l e R s m args below meth c H locs cells slots Q (F0 m (pc + n) LS' rest)) → W p l e R s m args below meth c H locs cells slots Q (F0 m pc LS (.int x :: rest))) (he : mj_stoi pc ls st h n i = some (o, S')) (k : mj_W p l e R s m args below meth c Q D cy b base L xs nL n0 z0 S') : mj_W p l e R s m args below meth c Q D cy b base L xs nL n0 z0 (pc, ls, st, h) := by
  unfold mj_stoi at he
  split at he
  · split at he
    · next hs =>
      cases he
      exact fun H locs LS hR hL hS => row hL.has (by have := mj_st1_lt hs; have hq : ls.length = nL := hL.1; omega) (fun LS' h' => k H locs LS' hR (hL.st1 hs h') hS)
    · cases he
  · cases he
theorem mj_gstol {n i : Nat} (row : ∀ {H : Heap} {locs : List Loc} {cells slots : Nat} {LS : Array Slot} {rest : List Value} {x : Int64} {lv : List (Nat × Value)}, lv_has LS nL lv → i + 1 < nL → (∀ LS' : Array Slot, lv_has LS' nL ((i, Value.long x) :: lv.filter (fun q => !(q.1 == i) && (!(q.1 == i + 1) && !(q.1 + 1 == i && q.2.category == 2)))) → W p l e R s m args below meth c H locs cells slots Q (F0 m (pc + n) LS' rest)) → W p l e R s m args below meth c H locs cells slots Q (F0 m pc LS (.long x :: rest))) (he : mj_stol pc ls st h n i = some (o, S')) (k : mj_W p l e R s m args below meth c Q D cy b base L xs nL n0 z0 S') : mj_W p l e R s m args below meth c Q D cy b base L xs nL n0 z0 (pc, ls, st, h) := by
  unfold mj_stol at he
  split at he
  · split at he
    · next hs =>
      cases he
      exact fun H locs LS hR hL hS => row hL.has (by have := mj_st2_lt hs; have hq : ls.length = nL := hL.1; omega) (fun LS' h' => k H locs LS' hR (hL.st2 hs h') hS)
    · cases he
  · cases he
theorem mj_gstoa {n i : Nat} (row : ∀ {H : Heap} {locs : List Loc} {cells slots : Nat} {LS : Array Slot} {rest : List Value} {x : Nat} {lv : List (Nat × Value)}, lv_has LS nL lv → i < nL → (∀ LS' : Array Slot, lv_has LS' nL ((i, Value.ref x) :: lv.filter (fun q => !(q.1 == i) && !(q.1 + 1 == i && q.2.category == 2))) → W p l e R s m args below meth c H locs cells slots Q (F0 m (pc + n) LS' rest)) → W p l e R s m args below meth c H locs cells slots Q (F0 m pc LS (.ref x :: rest))) (he : mj_stoa pc ls st h n i = some (o, S')) (k : mj_W p l e R s m args below meth c Q D cy b base L xs nL n0 z0 S') : mj_W p l e R s m args below meth c Q D cy b base L xs nL n0 z0 (pc, ls, st, h) := by
  unfold mj_stoa at he
  split at he
  · split at he
    · next hs =>
      cases he
      exact fun H locs LS hR hL hS => row hL.has (by have := mj_st1_lt hs; have hq : ls.length = nL := hL.1; omega) (fun LS' h' => k H locs LS' hR (hL.st1 hs h') hS)
    · cases he
  · cases he
theorem mj_ginc {i : Nat} {kk : Int} (hx : p.tables.exec = Jvm.exec) (hb : c.code = cc) (hd : decode cc pc = .ok (.iinc i kk, 3)) (he : mj_inc pc ls st h i kk = some (o, S')) (k : mj_W p l e R s m args below meth c Q D cy b base L xs nL n0 z0 S') : mj_W p l e R s m args below meth c Q D cy b base L xs nL n0 z0 (pc, ls, st, h) := by
  unfold mj_inc at he
  split at he
  · next x hv =>
    cases hkk : decide (Int32.ofInt kk = mj_kc kk) with
    | false => rw [hkk] at he; cases he
    | true =>
    rw [hkk] at he
    dsimp only [cond] at he
    split at he
    · next hs =>
      cases he
      intro H locs LS hR hL hS
      obtain ⟨j, hj⟩ := List.getElem?_of_mem (mj_as_mem (ad := mj_ad b base) hv)
      exact lv_iinc (x := x) (v := x + mj_kc kk) hx hb hd hL.has hj (by rw [of_decide_eq_true hkk]) (by have := mj_st1_lt hs; have hq : ls.length = nL := hL.1; omega) rfl (fun LS' h' => k H locs LS' hR (hL.st1 hs h') hS)
    · cases he
  · cases he
theorem mj_gif1 {cd : ClassFile.Cond} {off : Int} (hx : p.tables.exec = Jvm.exec) (hb : c.code = cc) (hd : decode cc pc = .ok (.ifCond cd off, 3)) (he : mj_if1 pc ls st h cd off = some (o, S')) (k : mj_W p l e R s m args below meth c Q D cy b base L xs nL n0 z0 S') : mj_W p l e R s m args below meth c Q D cy b base L xs nL n0 z0 (pc, ls, st, h) := by
  unfold mj_if1 at he
  split at he
  · next x r =>
    split at he
    · next t hj =>
      cases he
      intro H locs LS hR hL hS
      have ht := mj_j_eq hj
      obtain ⟨k1, k2⟩ := mj_cbr (P := fun q => W p l e R s m args below meth c H locs (h.length - n0) (mj_sz h - z0) Q (F0 m q LS (r.map (mj_v (mj_ad b base))))) (k H locs LS hR hL hS)
      cases cd with
      | eq => exact lv_if_eq hx hb hd ht (fun q => k1 (decide_eq_true q)) (fun q => k2 (decide_eq_false q))
      | ne => exact lv_if_ne hx hb hd ht (fun q => k1 (decide_eq_true q)) (fun q => k2 (decide_eq_false (fun n => n q)))
      | lt => exact lv_if_lt hx hb hd ht (fun q => k1 (decide_eq_true q)) (fun q => k2 (decide_eq_false q))
      | ge => exact lv_if_ge hx hb hd ht (fun q => k1 (decide_eq_true q)) (fun q => k2 (decide_eq_false q))
      | gt => exact lv_if_gt hx hb hd ht (fun q => k1 (decide_eq_true q)) (fun q => k2 (decide_eq_false q))
      | le => exact lv_if_le hx hb hd ht (fun q => k1 (decide_eq_true q)) (fun q => k2 (decide_eq_false q))
    · cases he
  · cases he
theorem mj_gif2 {cd : ClassFile.Cond} {off : Int} (hx : p.tables.exec = Jvm.exec) (hb : c.code = cc) (hd : decode cc pc = .ok (.if_icmp cd off, 3)) (he : mj_if2 pc ls st h cd off = some (o, S')) (k : mj_W p l e R s m args below meth c Q D cy b base L xs nL n0 z0 S') : mj_W p l e R s m args below meth c Q D cy b base L xs nL n0 z0 (pc, ls, st, h) := by
  unfold mj_if2 at he
  split at he
  · next y x r =>
    split at he
    · next t hj =>
      cases he
      intro H locs LS hR hL hS
      have ht := mj_j_eq hj
      obtain ⟨k1, k2⟩ := mj_cbr (P := fun q => W p l e R s m args below meth c H locs (h.length - n0) (mj_sz h - z0) Q (F0 m q LS (r.map (mj_v (mj_ad b base))))) (k H locs LS hR hL hS)
      cases cd with
      | eq => exact lv_icmp_eq hx hb hd ht (fun q => k1 (decide_eq_true q)) (fun q => k2 (decide_eq_false q))
      | ne => exact lv_icmp_ne hx hb hd ht (fun q => k1 (decide_eq_true q)) (fun q => k2 (decide_eq_false (fun n => n q)))
      | lt => exact lv_icmp_lt hx hb hd ht (fun q => k1 (decide_eq_true q)) (fun q => k2 (decide_eq_false q))
      | ge => exact lv_icmp_ge hx hb hd ht (fun q => k1 (decide_eq_true q)) (fun q => k2 (decide_eq_false q))
      | gt => exact lv_icmp_gt hx hb hd ht (fun q => k1 (decide_eq_true q)) (fun q => k2 (decide_eq_false q))
      | le => exact lv_icmp_le hx hb hd ht (fun q => k1 (decide_eq_true q)) (fun q => k2 (decide_eq_false q))
    · cases he
  · cases he
theorem mj_ggoto {off : Int} (hx : p.tables.exec = Jvm.exec) (hb : c.code = cc) (hd : decode cc pc = .ok (.goto off, 3)) (he : mj_goto pc ls st h off = some (o, S')) (k : mj_W p l e R s m args below meth c Q D cy b base L xs nL n0 z0 S') : mj_W p l e R s m args below meth c Q D cy b base L xs nL n0 z0 (pc, ls, st, h) := by
  unfold mj_goto at he
  split at he
  · next t hj =>
    cases he
    exact fun H locs LS hR hL hS => lv_goto hx hb hd (mj_j_eq hj) (k H locs LS hR hL hS)
  · cases he
theorem mj_gldc {idx n : Nat} (row : ∀ {H : Heap} {locs : List Loc} {cells slots : Nat} {LS : Array Slot} {rest : List Value} {v : Int32}, (Jvm.Cond.constant (mj_nm own) idx v).before args s = true → W p l e R s m args below meth c H locs cells slots Q (F0 m (pc + n) LS (.int v :: rest)) → W p l e R s m args below meth c H locs cells slots Q (F0 m pc LS rest)) (hts : ∀ w ∈ mj_T, w.before args s = true) (he : mj_ldc pc ls st h own idx n = some (o, S')) (k : mj_W p l e R s m args below meth c Q D cy b base L xs nL n0 z0 S') : mj_W p l e R s m args below meth c Q D cy b base L xs nL n0 z0 (pc, ls, st, h) := by
  unfold mj_ldc at he
  split at he
  · next v ps hv =>
    cases he
    have hm := mj_isw_mem (mj_range (T := mj_ldcT) (f := fun o e => mj_isw e.2.2 (.constant (mj_nm o) e.1 e.2.1)) (Nat.le_of_ble_eq_true rfl) mj_kldc_ok (mj_lk_mem _ _ _ hv))
    exact fun H locs LS hR hL hS => row (hts _ hm) (k H locs LS hR hL hS)
  · cases he
theorem mj_gldc2 {idx : Nat} (hx : p.tables.exec = Jvm.exec) (hb : c.code = cc) (hown : s.vm.findClass (mj_nm own) = some m.cls) (hd : decode cc pc = .ok (.ldc2_w idx, 3)) (hts : ∀ w ∈ mj_T, w.before args s = true) (he : mj_ldc2 pc ls st h own idx = some (o, S')) (k : mj_W p l e R s m args below meth c Q D cy b base L xs nL n0 z0 S') : mj_W p l e R s m args below meth c Q D cy b base L xs nL n0 z0 (pc, ls, st, h) := by
  unfold mj_ldc2 at he
  split at he
  · next v ps hv =>
    cases he
    have hm := mj_isw_mem (mj_range (T := mj_ldlT) (f := fun o e => mj_isw e.2.2 (.constantLong (mj_nm o) e.1 e.2.1)) (Nat.le_of_ble_eq_true rfl) mj_kldl_ok (mj_lk_mem _ _ _ hv))
    exact fun H locs LS hR hL hS => lv_ldc2 hx hb hown (hts _ hm) hd (k H locs LS hR hL hS)
  · cases he
theorem mj_gdup (hx : p.tables.exec = Jvm.exec) (hb : c.code = cc) (hd : decode cc pc = .ok (.dup, 1)) (he : mj_dup pc ls st h = some (o, S')) (k : mj_W p l e R s m args below meth c Q D cy b base L xs nL n0 z0 S') : mj_W p l e R s m args below meth c Q D cy b base L xs nL n0 z0 (pc, ls, st, h) := by
  unfold mj_dup at he
  split at he
  · next v r =>
    cases hc : Nat.beq v.category 1 with
    | false => rw [hc] at he; cases he
    | true =>
      rw [hc] at he
      cases he
      exact fun H locs LS hR hL hS => lv_dup hx hb hd (by rw [mj_v_cat]; exact Nat.eq_of_beq_eq_true hc) (k H locs LS hR hL hS)
  · cases he
theorem mj_gdup2 (hx : p.tables.exec = Jvm.exec) (hb : c.code = cc) (hd : decode cc pc = .ok (.dup2, 1)) (he : mj_dup2 pc ls st h = some (o, S')) (k : mj_W p l e R s m args below meth c Q D cy b base L xs nL n0 z0 S') : mj_W p l e R s m args below meth c Q D cy b base L xs nL n0 z0 (pc, ls, st, h) := by
  unfold mj_dup2 at he
  split at he
  · next v w r =>
    cases hc : (Nat.beq v.category 1 && Nat.beq w.category 1) with
    | false => rw [hc] at he; cases he
    | true =>
      rw [hc] at he
      cases he
      have hc' := (Bool.and_eq_true _ _).mp hc
      exact fun H locs LS hR hL hS => lv_dup2_11 hx hb hd (by rw [mj_v_cat]; exact Nat.eq_of_beq_eq_true hc'.1) (by rw [mj_v_cat]; exact Nat.eq_of_beq_eq_true hc'.2) (k H locs LS hR hL hS)
  · cases he
theorem mj_ggetf {idx : Nat} (hx : p.tables.exec = Jvm.exec) (hb : c.code = cc) (hown : s.vm.findClass (mj_nm own) = some m.cls) (hd : decode cc pc = .ok (.getfield idx, 3)) (hts : ∀ w ∈ mj_T, w.before args s = true) (hK : mj_Kn D cy s) (he : mj_getf pc ls st h own idx = some (o, S')) (k : mj_W p l e R s m args below meth c Q D cy b base L xs nL n0 z0 S') : mj_W p l e R s m args below meth c Q D cy b base L xs nL n0 z0 (pc, ls, st, h) := by
  unfold mj_getf at he
  split at he
  · next a r =>
    split at he
    · next ci k1 tg fin ps hf =>
      split at he
      · next c1 fs ha =>
        cases hc : Nat.beq c1 ci with
        | false => rw [hc] at he; cases he
        | true =>
          rw [hc] at he
          dsimp only [cond] at he
          split at he
          · next v hv =>
            cases he
            have e1 := Nat.eq_of_beq_eq_true hc
            subst e1
            obtain ⟨q, hq, a1, a2, a3, a4, a5, a6⟩ := mj_fld hf
            intro H locs LS hR hL hS
            obtain ⟨a', rfl⟩ := mj_pos hR ha (fun q => by cases q)
            exact va_get hx hb hts (mj_cls hq).1 hown hK.1 hR.1 a' (mj_ws_get ha) hq k1 a1 (hts _ a5) (fun x hx => hx) (v := mj_v (mj_ad b base) v) (by rw [List.getElem?_map, ← mj_nth_eq, hv]; rfl) hd (k H locs LS hR hL hS)
          · cases he
      · cases he
    · cases he
  · cases he
end MG
