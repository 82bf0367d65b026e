/-! THE CLAIM OUT OF ONE WALK OF THE LAW'S BODY. Your part is whole_start (and what it stands on); all else here is the same for every law, but numbers. -/
def R_law : String := "FarBoardsLaw"
def lw_P (b : Addr) (xs : List Int32) (args : Array Value) (s : State) : Prop := args = #[.ref b] ∧ s.IntsAt b xs ∧ xs.length ≤ 3072 ∧ (Jvm.Cond.and given_1 narrow_1).before args s = true
def lw_Q (_ : Array Value) (s : State) (o : Outcome) (t : State) : Prop := o = .returned (some (.int 1)) ∧ Framed s o t [] 600000 7302249
def lw_Z (below : List Frame) (a : Array Value) (s : State) : State → Prop := fun t => ∃ o, t.status = .running ∧ Ended t below o ∧ lw_Q a s o t
/-- the law's own end, with 1 on the stack, nothing written that was there before, its room as the claim has it -/
theorem lw_ret {p : Program} {l : Launch} {e : Env} {s : State} {m : MethodId} {below : List Frame} {meth : Method} {c : Code} {b : Nat} (hx : p.tables.exec = Jvm.exec) (hb : c.code = code) (hr : meth.sig.returnType = ret) (hlocks : meth.locks = false) {pc : Nat} {H : Heap} {ls : Array Slot} (hdg : decode code pc = .ok (.ireturn, 1)) : W p l e room_1 s m #[Value.ref b] below meth c H [] 600000 7302249 (lw_Z below #[Value.ref b] s) (F0 m pc ls [.int 1]) := by
  intro T hT X
  obtain ⟨fs, hret, hrun, hended, hW, hframe⟩ := X.leave (v := some (.int 1)) (hlocks := hlocks) (fun h => by rw [hr] at h; cases h)
  have hmeth' : T.vm.method? m = some meth := X.method'
  refine ⟨T.setFrames fs, ?_, .returned (some (.int 1)), hrun, hended, rfl, ⟨_, rfl⟩, hW, hframe⟩
  jvm_step X.here [X.here.top, hx, hb, hdg, hmeth', hr, ret, narrow_b1]
  (try refine ⟨rfl, ?_⟩); (try refine ⟨rfl, ?_⟩)
  first | (intro acts; rw [hret _ acts rfl rfl rfl]) | rw [hret _ _ rfl rfl rfl]
  exact Steps.refl _
/-- what holds at the law's entry: the machine, the code, the tables' words (any of lw_tbl by 'hts w (by decide +kernel)'), the script of L ints xs at the cell b, what the Statement gives of the start (any of its parts by flat_of_before) -/
def lw_At (p : Program) (s : State) (m : MethodId) (meth : Method) (c : Code) (b L : Nat) (xs : Nat → Int32) : Prop :=
  p.tables.exec = Jvm.exec ∧ c.code = code ∧ meth.sig.returnType = ret ∧ c.maxLocals = 4 ∧ s.vm.findClass R_law = some m.cls ∧ (∀ w ∈ lw_tbl, w.before #[Value.ref b] s = true) ∧ va_X b L xs s s.heap ∧ b < s.heap.size ∧ meth.locks = false ∧ (Jvm.Cond.and given_1 narrow_1).before #[Value.ref b] s = true
/-- the small machine's run of the law, from the script's cell alone -/
def mj_LawRun (L : Nat) (xs : Nat → Int32) : Prop := ∃ d n h', d ≤ 50 ∧ mj_N (mj_C d) 10 false (some .boolean) iL_law n (0, [some (.ref 0), none, none, none], [], [.inl (9, L, .inl xs)]) (some (.int 1)) h' ∧ h'.length ≤ 600000 ∧ mj_sz h' ≤ 7302249
theorem mj_arr {s : State} {args : Array Value} {ty : FieldType} (h : (Cond.arrayClass ty).before args s = true) : ∃ cA : ClassId, ArrOfT s cA ty ∧ s.vm.findClass ("[" ++ ty.toString) = some cA := by
  obtain ⟨cA, kA, comp, h1, h2, h3⟩ := Cond.arrayClass_spec h
  exact ⟨cA, fun n z => ⟨fun k h => (by cases h), kA, h2, comp, h3⟩, h1⟩
theorem mj_whole {p : Program} {e : Env} {s : State} {m : MethodId} {below : List Frame} {meth : Method} {c : Code} (l : Launch) {b L : Nat} {xs : Nat → Int32} (hrun : mj_LawRun L xs) (C0 : lw_At p s m meth c b L xs) : W p l e room_1 s m #[Value.ref b] below meth c s.heap [] 0 0 (lw_Z below #[Value.ref b] s) (entryFrame m ([Value.ref b] : List Value).toArray 4) := by
  obtain ⟨hx, hb, hr, hml, hown, hts0, hX, hbl, hlocks, hgv⟩ := id C0
  obtain ⟨d, n, h', hd, hN, hc1, hc2⟩ := hrun
  have hts : ∀ w ∈ mj_T, w.before #[Value.ref b] s = true := fun w hw => hts0 w (List.mem_filter.mp hw).1
  have hex : ∀ ci : Nat, ∃ x : ClassId × (Nat → Nat), ∀ q, vwCl[ci]? = some q → u_Kn s q.1 q.2.1 q.2.2 x.1 x.2 := by
    intro ci
    cases hq : vwCl[ci]? with
    | none => exact ⟨(0, fun _ => 0), fun q h => by cases h⟩
    | some q =>
      obtain ⟨g1, -, -, g4, -⟩ := mj_cls hq
      obtain ⟨cC, iS, hk⟩ := u_known hts g1 (hts _ g4)
      exact ⟨(cC, iS), fun q' h => by cases h; exact hk⟩
  have ha := mj_karr_ok
  simp only [Bool.and_eq_true] at ha
  obtain ⟨cI, aI, fI⟩ := mj_arr (hts _ (mj_isw_mem ha.1))
  obtain ⟨cB, aB, fB⟩ := mj_arr (hts _ (mj_isw_mem ha.2.1))
  obtain ⟨cZ, aZ, fZ⟩ := mj_arr (hts _ (mj_isw_mem ha.2.2.1))
  obtain ⟨cJ, aJ, fJ⟩ := mj_arr (hts _ (mj_isw_mem ha.2.2.2))
  obtain ⟨cy, e0, e1, e2, e3⟩ : ∃ cy : Nat → ClassId, cy 0 = cI ∧ cy 1 = cB ∧ cy 2 = cZ ∧ cy 3 = cJ := ⟨fun t => if t = 0 then cI else if t = 1 then cB else if t = 2 then cZ else cJ, rfl, rfl, rfl, rfl⟩
  subst e0; subst e1; subst e2; subst e3
  obtain ⟨D, hD⟩ : ∃ D : va_G, ∀ (ci : Nat) (q : vw_C), vwCl[ci]? = some q → u_Kn s q.1 q.2.1 q.2.2 (D.1 ci) (D.2 ci) := ⟨(fun k => (Classical.choose (hex k)).1, fun k => (Classical.choose (hex k)).2), fun ci q hq => Classical.choose_spec (hex ci) q hq⟩
  have hKn : mj_Kn D cy s := by
    refine ⟨⟨hD, fun k q hk => ?_⟩, va_Nw.of rfl (hts0 _ (List.mem_of_getElem? mj_nest_ok.1)), va_Nw.of rfl (hts0 _ (List.mem_of_getElem? mj_nest_ok.2)), fI, fB, fZ, fJ⟩
    match k, hk with
    | 0, hk => cases hk; exact ⟨aI, fI⟩
    | 1, hk => cases hk; exact ⟨aB, fB⟩
    | 2, hk => cases hk; exact ⟨aZ, fZ⟩
    | 3, hk => cases hk; exact ⟨aJ, fJ⟩
    | k + 4, hk => simp [mj_tys] at hk
  have hR : mj_Rep D cy b s.heap.size L xs s [.inl (9, L, .inl xs)] s.heap := ⟨fun k q hk => by simp [mj_ws, mj_wl] at hk, hX, rfl, hbl⟩
  have F : mj_Fix p room_1 s m #[Value.ref b] meth c code D cy s.heap.size 10 false 4 1 := ⟨hx, hb, hml, hown, hts, (fun h => Bool.noConfusion h), hKn, ⟨rfl, Nat.le_refl 1⟩, by decide, by decide⟩
  have hl := lv_entry ([.ref b]) (n := 4) (Nat.le_of_ble_eq_true rfl)
  rw [lg_entry_eq]
  generalize (lg_sl ([.ref b]) ++ List.replicate (4 - (lg_sl ([.ref b])).length) Slot.unset).toArray = LS at hl ⊢
  have hL : mj_L (mj_ad b s.heap.size) [some (.ref 0), none, none, none] LS 4 := mj_entry (av := [.ref 0]) (maxL := 4) hl
  have hfr : d + 1 ≤ room_1.frames := by show d + 1 ≤ 2048; omega
  have hlo : 40 * (d + 1) ≤ room_1.locals := by show 40 * (d + 1) ≤ 84000; omega
  have k := mj_NW (l := l) (below := below) (e := e) (Q := lw_Z below #[Value.ref b] s) (z0 := L) (mj_sound l D cy b s.heap.size L xs d) F hfr hlo (fun pc ins hi => by
      obtain ⟨len, a1, a2⟩ := mj_dc_at (pc0 := 0) mj_law_dc hi
      rw [Nat.zero_add] at a1
      exact ⟨len, a1, a2⟩) ⟨by show h'.length - 1 ≤ 600000; omega, by show mj_sz h' - L ≤ 7302249; omega⟩ (fun S ins o h1 h2 h3 h4 => ?_) n _ hN (Nat.le_refl _) (Nat.le_refl _)
  · have k2 := k s.heap [] LS hR hL va_S.rf
    dsimp only at k2
    rw [show ([(.inl (9, L, .inl xs) : mj_E)] : mj_H).length - 1 = 0 from rfl, show mj_sz [.inl (9, L, .inl xs)] - L = 0 by simp [mj_sz, mj_sz1]] at k2
    exact k2
  · obtain ⟨len, a1, a2⟩ := mj_dc_at (pc0 := 0) mj_law_dc h1
    rw [Nat.zero_add] at a1
    intro H locs LS' hR' hL' hS'
    obtain ⟨pc', ls', st', hh⟩ := S
    dsimp only at h1 h2 a1 hR' hL' h4 ⊢
    subst h4
    refine va_forget (fun q hq => hS'.2.2 q hq) ?_
    refine W.widen (k := 600000) (n := 7302249) (by omega) (by omega) ?_
    unfold mj_rt at h2
    split at h2
    · next hq => cases hq
    · cases h2
      have e1 : len = 1 := by rcases a2 with q | q; cases q; exact q
      subst e1
      exact lw_ret hx hb hr hlocks a1
    · next hq => cases hq
    · next hq => cases hq
    · cases h2
