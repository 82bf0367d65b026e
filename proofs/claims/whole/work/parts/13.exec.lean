/-! new cells; every instruction -/
section MGN
variable {p : Program} {l : Launch} {e : Env} {R : Room} {s : State} {m : MethodId} {args : Array Value} {below : List Frame} {meth : Method} {c : Code} {Q : State → Prop}
variable {cc : ByteArray} {D : va_G} {cy : Nat → ClassId} {b base L : Nat} {xs : Nat → Int32} {own : Nat} {ini : Bool} {nL n0 z0 : Nat}
variable {pc : Nat} {ls : List (Option Value)} {st : List Value} {h : mj_H} {o : Option Prop} {S' : mj_S}
theorem mj_nth_app {α : Type} {t : List α} {a : α} {k : Nat} {x : α} (hx : mj_nth t k = some x) : mj_nth (t ++ [a]) k = some x := by
  rw [mj_nth_eq] at hx ⊢
  rw [List.getElem?_append_left (List.getElem?_eq_some_iff.mp hx).1]
  exact hx
/-- behind a making: one cell more -/
theorem mj_Rep.app {H H1 : Heap} {e1 : mj_E} (hR : mj_Rep D cy b base L xs s h H) (hH : H.size + 1 = base + h.length) (o1 : ∀ q, q < H.size → H1[q]? = H[q]?) (hat : va_at D vwCl (mj_ad b base h.length, mj_e cy (mj_ad b base) e1) H1) : mj_Rep D cy b base L xs s (h ++ [e1]) H1 := by
  refine ⟨?_, hR.2.1.kept (o1 b ?_), mj_nth_app hR.2.2.1, hR.2.2.2⟩
  · rw [mj_ws_app hR.pos]
    refine va_P.app (hR.1.kept fun k q hq => o1 q.1 (hR.1 k q hq).lt) (fun k q hq => ?_)
    have hz : k < 1 := (List.getElem?_eq_some_iff.mp hq).1
    rw [show k = 0 by omega] at hq
    cases hq
    exact hat
  · have := hR.2.2.2
    have := hR.pos
    omega
theorem mj_kdf_ok : ((List.range 10).all fun ci => match vwCl[ci]? with
  | some q => (List.range q.2.2).all fun k => match parseFieldDescriptor (q.2.1 k).2.2.1 with
    | some ty => decide (mj_nth (mj_row mj_dfT ci) k = some (defaultValue ty))
    | none => false
  | none => false) = true := by decide +kernel
theorem mj_v_df (ad : Nat → Nat) (ty : FieldType) : mj_v ad (defaultValue ty) = defaultValue ty := by cases ty <;> rfl
theorem mj_df {ci : Nat} {q : vw_C} {ty0 : Nat → FieldType} {ad : Nat → Nat} (hq : vwCl[ci]? = some q) (g2 : ∀ k, k < q.2.2 → parseFieldDescriptor (q.2.1 k).2.2.1 = some (ty0 k)) : ∀ j, j < q.2.2 → defaultValue (ty0 j) = vp_V ((mj_row mj_dfT ci).map (mj_v ad)) j := by
  intro j hj
  have hci : ci < 10 := (List.getElem?_eq_some_iff.mp hq).1
  have k := List.all_eq_true.mp mj_kdf_ok ci (List.mem_range.mpr hci)
  rw [hq] at k
  have k2 := List.all_eq_true.mp k j (List.mem_range.mpr hj)
  rw [g2 j hj] at k2
  have k3 := of_decide_eq_true k2
  rw [mj_nth_eq] at k3
  simp [vp_V, List.getD_eq_getElem?_getD, k3, mj_v_df]
theorem mj_adl {H : Heap} (hp : 0 < h.length) (hH : H.size + 1 = base + h.length) : mj_ad b base h.length = H.size := by
  cases hl : h.length with
  | zero => omega
  | succ k =>
    show base + k = H.size
    omega
theorem mj_gnewa {ty : ArrayType} {t : Nat} {f : (Nat → Int32) ⊕ (Nat → Int64)} (F : mj_Fix p R s m args meth c cc D cy base own ini nL n0) (hd : decode cc pc = .ok (.newarray ty, 2)) (hcl : Cond.arrayClass (newarray.typeOf ty) ∈ mj_T) (hby : componentBytes (newarray.typeOf ty) ≤ 8) (hcy : s.vm.findClass ("[" ++ (newarray.typeOf ty).toString) = some (cy t)) (hcell : ∀ n : Nat, va_at D vwCl (0, mj_e cy (mj_ad b base) (.inl (t, n, f))) #[arrV (cy t) n (fun _ => defaultValue (newarray.typeOf ty))])
    (hn : n0 ≤ h.length) (hz : z0 ≤ mj_sz h) (hrm : S'.2.2.2.length - n0 ≤ R.cells ∧ mj_sz S'.2.2.2 - z0 ≤ R.slots) (he : mj_newa pc ls st h t f = some (o, S')) (ho : mj_ok o) (k : mj_W p l e R s m args below meth c Q D cy b base L xs nL n0 z0 S') : mj_W p l e R s m args below meth c Q D cy b base L xs nL n0 z0 (pc, ls, st, h) := by
  obtain ⟨hx, hb, hml, hown, hts, hini, hK, hsz, hfr, hlo⟩ := F
  unfold mj_newa at he
  split at he
  · next n r =>
    cases he
    intro H locs LS hR hL hS
    refine mj_size hsz hn hR hS fun hH => ?_
    have hlen : (h ++ [(.inl (t, n.toNatClampNeg, f) : mj_E)]).length = h.length + 1 := by simp
    have hszz : mj_sz (h ++ [(.inl (t, n.toNatClampNeg, f) : mj_E)]) = mj_sz h + n.toNatClampNeg := mj_sz_app h _
    dsimp only at hrm
    rw [hlen, hszz] at hrm
    refine va_newaK hx hb (hts _ hcl) rfl hd rfl ho.1 rfl ?_ (by show h.length - n0 + 1 ≤ _; omega) (by show mj_sz h - z0 + _ ≤ _; omega) rfl (fun H1 cA e1 z1 o1 hAr hNm => ?_)
    · exact Nat.le_trans (Nat.mul_le_mul ho.2 hby) (by decide)
    have hcA : cA = cy t := Option.some.inj (hNm.symm.trans hcy)
    subst hcA
    have hR1 : mj_Rep D cy b base L xs s (h ++ [.inl (t, n.toNatClampNeg, f)]) H1 := by
      refine hR.app hH o1 ?_
      have h5 := hcell n.toNatClampNeg
      cases f with
      | inl f =>
        show H1[mj_ad b base h.length]? = some (vp_cell _ _)
        rw [mj_adl hR.pos hH, e1]
        exact h5
      | inr f =>
        show H1[mj_ad b base h.length]? = some (vp_cell _ _)
        rw [mj_adl hR.pos hH, e1]
        exact h5
    have k2 := k H1 locs LS hR1 hL ⟨by have := hS.1; omega, fun q g1 g2 => (o1 q (Nat.lt_of_lt_of_le g1 hS.1)).trans (hS.2.1 q g1 g2), hS.2.2⟩
    dsimp only at k2
    rw [hlen, hszz, show h.length + 1 - n0 = h.length - n0 + 1 by omega, show mj_sz h + n.toNatClampNeg - z0 = mj_sz h - z0 + n.toNatClampNeg by omega] at k2
    have k3 : mj_v (mj_ad b base) (.ref h.length) = .ref H.size := by
      show Value.ref (mj_ad b base h.length) = _
      rw [mj_adl hR.pos hH]
    rw [List.map_cons, k3] at k2
    exact k2
  · cases he
theorem mj_gnewo {idx : Nat} (F : mj_Fix p R s m args meth c cc D cy base own ini nL n0) (hd : decode cc pc = .ok (.new idx, 3)) (hn : n0 ≤ h.length) (hz : z0 ≤ mj_sz h) (hrm : S'.2.2.2.length - n0 ≤ R.cells ∧ mj_sz S'.2.2.2 - z0 ≤ R.slots) (he : mj_newo pc ls st h own idx = some (o, S')) (k : mj_W p l e R s m args below meth c Q D cy b base L xs nL n0 z0 S') : mj_W p l e R s m args below meth c Q D cy b base L xs nL n0 z0 (pc, ls, st, h) := by
  obtain ⟨hx, hb, hml, hown, hts, hini, hK, hsz, hfr, hlo⟩ := F
  unfold mj_newo at he
  split at he
  · next ci ps hps =>
    cases he
    have hm := mj_range (T := mj_newT) (f := fun o e => decide (e.2.1 < 10) && mj_isw e.2.2 (.classLink (mj_nm o) e.1 (mj_nm e.2.1))) (Nat.le_of_ble_eq_true rfl) mj_knew_ok (mj_lk_mem _ _ _ hps)
    simp only [Bool.and_eq_true, decide_eq_true_eq] at hm
    obtain ⟨hci, hm⟩ := hm
    have hq : vwCl[ci]? = some vwCl[ci] := List.getElem?_eq_getElem hci
    obtain ⟨g1, ⟨ty0, g2⟩, g3, g4, g5, g6, g7⟩ := mj_cls hq
    generalize vwCl[ci] = q at hq g1 g2 g3 g4 g5 g6 g7
    have hdf : ∀ j, j < q.2.2 → defaultValue (ty0 j) = vp_V ((mj_row mj_dfT ci).map (mj_v (mj_ad b base))) j := mj_df hq g2
    intro H locs LS hR hL hS
    refine mj_size hsz hn hR hS fun hH => ?_
    have hlen : (h ++ [(.inr (ci, mj_row mj_dfT ci) : mj_E)]).length = h.length + 1 := by simp
    have hszz : mj_sz (h ++ [(.inr (ci, mj_row mj_dfT ci) : mj_E)]) = mj_sz h + q.2.2 := by rw [mj_sz_app]; show _ + (mj_row mj_dfT ci).length = _; rw [g7]
    dsimp only at hrm
    rw [hlen, hszz] at hrm
    have hKn := hK.1.1 ci _ hq
    refine W.newcK hx hb hown (hts _ (by rw [← g6] at hm; exact mj_isw_mem hm)) (hts _ g4) (hts _ g5) rfl hd (by show h.length - n0 + 1 ≤ _; omega) (by show mj_sz h - z0 + _ ≤ _; omega) hKn.2.1 rfl fun H1 kC hkC e1 z1 o1 => ?_
    have hR1 : mj_Rep D cy b base L xs s (h ++ [.inr (ci, mj_row mj_dfT ci)]) H1 := by
      refine hR.app hH o1 ?_
      refine ⟨_, hq, ?_⟩
      rw [mj_adl hR.pos hH]
      exact (u_born ty0 hts g1 hKn hkC e1 g2).to hdf
    have k2 := k H1 locs LS hR1 hL ⟨by have := hS.1; omega, fun q g1 g2 => (o1 q (Nat.lt_of_lt_of_le g1 hS.1)).trans (hS.2.1 q g1 g2), hS.2.2⟩
    dsimp only at k2
    rw [hlen, hszz, show h.length + 1 - n0 = h.length - n0 + 1 by omega, show mj_sz h + q.2.2 - z0 = mj_sz h - z0 + q.2.2 by omega] at k2
    have k3 : mj_v (mj_ad b base) (.ref h.length) = .ref H.size := by
      show Value.ref (mj_ad b base h.length) = _
      rw [mj_adl hR.pos hH]
    rw [List.map_cons, k3] at k2
    exact k2
  · cases he
/-- EVERY INSTRUCTION that calls no method of ours -/
theorem mj_exW {ins : Instr} (F : mj_Fix p R s m args meth c cc D cy base own ini nL n0) (hd : decode cc pc = .ok (ins, mj_len ins)) (hn : n0 ≤ h.length) (hz : z0 ≤ mj_sz h) (hrm0 : h.length - n0 ≤ R.cells ∧ mj_sz h - z0 ≤ R.slots) (hrm : S'.2.2.2.length - n0 ≤ R.cells ∧ mj_sz S'.2.2.2 - z0 ≤ R.slots) (he : mj_ex pc ls st h own ini ins = some (o, S')) (ho : mj_ok o) (k : mj_W p l e R s m args below meth c Q D cy b base L xs nL n0 z0 S') : mj_W p l e R s m args below meth c Q D cy b base L xs nL n0 z0 (pc, ls, st, h) := by
  have F' := F
  obtain ⟨hx, hb, hml, hown, hts, hini, hK, hsz, hfr, hlo⟩ := F'
  have ha := mj_karr_ok
  simp only [Bool.and_eq_true] at ha
  unfold mj_ex at he
  split at he
  · exact mj_gpushc (fun hq kk => lv_iconst hx hb hd hq kk) he k
  · exact mj_gpushc (fun hq kk => lv_bipush hx hb hd hq kk) he k
  · exact mj_gpushc (fun hq kk => lv_sipush hx hb hd hq kk) he k
  · exact mj_gpush (fun kk => lv_lconst hx hb hd rfl kk) he k
  · exact mj_gldc (fun hc kk => lv_ldc hx hb hown hc hd kk) hts he k
  · exact mj_gldc (fun hc kk => lv_ldcw hx hb hown hc hd kk) hts he k
  · exact mj_gldc2 hx hb hown hd hts he k
  · exact mj_glodi (fun hl kk => lv_iload_n hx hb hd rfl hl kk) he k
  · exact mj_glodi (fun hl kk => lv_iload hx hb hd hl kk) he k
  · exact mj_glodl (fun hl kk => lv_lload_n hx hb hd rfl hl kk) he k
  · exact mj_glodl (fun hl kk => lv_lload hx hb hd hl kk) he k
  · exact mj_gloda (fun hl kk => lv_aload_n hx hb hd rfl hl kk) he k
  · exact mj_gloda (fun hl kk => lv_aload hx hb hd hl kk) he k
  · exact mj_gstoi (fun hl hi kk => lv_istore_n hx hb hd rfl hl hi rfl kk) he k
  · exact mj_gstoi (fun hl hi kk => lv_istore hx hb hd hl hi rfl kk) he k
  · exact mj_gstol (fun hl hi kk => lv_lstore_n hx hb hd rfl hl hi rfl kk) he k
  · exact mj_gstol (fun hl hi kk => lv_lstore hx hb hd hl hi rfl kk) he k
  · exact mj_gstoa (fun hl hi kk => lv_astore_n hx hb hd rfl hl hi rfl kk) he k
  · exact mj_gstoa (fun hl hi kk => lv_astore hx hb hd hl hi rfl kk) he k
  · exact mj_ginc hx hb hd he k
  · exact mj_gb32 (fun kk => lv_iadd hx hb hd kk) he k
  · exact mj_gb32 (fun kk => lv_isub hx hb hd kk) he k
  · exact mj_gb32 (fun kk => lv_imul hx hb hd kk) he k
  · exact mj_gb32 (fun kk => lv_iand hx hb hd kk) he k
  · exact mj_gb32 (fun kk => lv_ior hx hb hd kk) he k
  · exact mj_gb32 (fun kk => lv_ishl hx hb hd kk) he k
  · exact mj_gb32 (fun kk => lv_ishr hx hb hd kk) he k
  · exact mj_gd32 (fun hne kk => lv_idiv hx hb hd hne kk) he ho k
  · exact mj_gd32 (fun hne kk => lv_irem hx hb hd hne kk) he ho k
  · exact mj_gb64 (fun kk => lv_ladd hx hb hd kk) he k
  · exact mj_gb64 (fun kk => lv_lsub hx hb hd kk) he k
  · exact mj_gb64 (fun kk => lv_lmul hx hb hd kk) he k
  · exact mj_gb64 (fun kk => lv_land hx hb hd kk) he k
  · exact mj_gb64 (fun kk => lv_lor hx hb hd kk) he k
  · exact mj_gd64 (fun hne kk => lv_lrem hx hb hd hne kk) he ho k
  · exact mj_gs64 (fun kk => lv_lshl hx hb hd rfl kk) he k
  · exact mj_gs64 (fun kk => lv_lshr hx hb hd rfl kk) he k
  · exact mj_gcmp hx hb hd he k
  · exact mj_gi2l hx hb hd he k
  · exact mj_gl2i hx hb hd he k
  · exact mj_gi2b hx hb hd he k
  · exact mj_gi2s hx hb hd he k
  · exact mj_gdup hx hb hd he k
  · exact mj_gdup2 hx hb hd he k
  · exact mj_gif1 hx hb hd he k
  · exact mj_gif2 hx hb hd he k
  · exact mj_ggoto hx hb hd he k
  · exact mj_ggetf hx hb hown hd hts hK he k
  · exact mj_gputf F hd he k
  · exact mj_galen F hd he k
  · exact mj_giald F hd he ho k
  · exact mj_gbald F hd he ho k
  · exact mj_glald F hd he ho k
  · exact mj_giast F hd he ho k
  · exact mj_gbast F hd he ho k
  · exact mj_glast F hd he ho k
  · exact mj_gnewa (t := 0) (f := .inl (fun _ => 0)) F hd (mj_isw_mem ha.1) (by decide) hK.2.2.2.1 (fun n => rfl) hn hz hrm he ho k
  · exact mj_gnewa (t := 1) (f := .inl (fun _ => 0)) F hd (mj_isw_mem ha.2.1) (by decide) hK.2.2.2.2.1 (fun n => rfl) hn hz hrm he ho k
  · exact mj_gnewa (t := 2) (f := .inl (fun _ => 0)) F hd (mj_isw_mem ha.2.2.1) (by decide) hK.2.2.2.2.2.1 (fun n => rfl) hn hz hrm he ho k
  · exact mj_gnewa (t := 3) (f := .inr (fun _ => 0)) F hd (mj_isw_mem ha.2.2.2) (by decide) hK.2.2.2.2.2.2 (fun n => rfl) hn hz hrm he ho k
  · exact mj_gnewo F hd hn hz hrm he k
  · exact mj_gobj F hd he k
  · exact mj_gstat F hd hrm0 he ho k
  · cases he
end MGN
