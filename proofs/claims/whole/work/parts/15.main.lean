/-! runs of the small machine are runs of the machine -/
def mj_mono (C : mj_Cl) : Prop := ∀ y av h r h', C y av h r h' → h.length ≤ h'.length ∧ mj_sz h ≤ mj_sz h'
theorem mj_step_mono {C : mj_Cl} (hC : mj_mono C) {own : Nat} {ini : Bool} {K : mj_K} {S S' : mj_S} (hs : mj_step C own ini K S S') : S.2.2.2.length ≤ S'.2.2.2.length ∧ mj_sz S.2.2.2 ≤ mj_sz S'.2.2.2 := by
  obtain ⟨ins, h1, ⟨o, he, -⟩ | ⟨x, r, t, -, -, rfl⟩ | ⟨idx, kd, y, n, pp, av, rest, r, h', -, -, -, hc, rfl, -⟩⟩ := hs
  · exact mj_ex_mono he
  · exact mj_rf_le
  · exact hC _ _ _ _ _ hc
theorem mj_N_mono {C : mj_Cl} (hC : mj_mono C) {own : Nat} {ini : Bool} {ret : Option FieldType} {K : mj_K} : ∀ (n : Nat) (S : mj_S) (r : Option Value) (h' : mj_H), mj_N C own ini ret K n S r h' → S.2.2.2.length ≤ h'.length ∧ mj_sz S.2.2.2 ≤ mj_sz h'
  | 0, S, r, h', ⟨_, _, _, _, _, e⟩ => by rw [e]; exact mj_rf_le
  | n + 1, S, r, h', ⟨S', hs, hn⟩ => by
    have a := mj_step_mono hC hs
    have b := mj_N_mono hC n S' r h' hn
    exact ⟨Nat.le_trans a.1 b.1, Nat.le_trans a.2 b.2⟩
theorem mj_C_mono : ∀ d, mj_mono (mj_C d)
  | 0 => fun _ _ _ _ _ h => h.elim
  | d + 1 => fun y av h r h' ⟨own, maxL, ini, ret, K, n, _, _, hn⟩ => mj_N_mono (mj_C_mono d) n _ r h' hn
def mj_keep (C : mj_Cl) (L : Nat) (xs : Nat → Int32) : Prop := ∀ y av h r h', C y av h r h' → mj_nth h 0 = some (.inl (9, L, .inl xs)) → mj_nth h' 0 = some (.inl (9, L, .inl xs))
theorem mj_N_keep {C : mj_Cl} {L : Nat} {xs : Nat → Int32} (hC : mj_keep C L xs) {own : Nat} {ini : Bool} {ret : Option FieldType} {K : mj_K} : ∀ (n : Nat) (S : mj_S) (r : Option Value) (h' : mj_H), mj_N C own ini ret K n S r h' → mj_nth S.2.2.2 0 = some (.inl (9, L, .inl xs)) → mj_nth h' 0 = some (.inl (9, L, .inl xs))
  | 0, S, r, h', ⟨_, _, _, _, _, e⟩, h0 => by rw [e]; exact h0
  | n + 1, S, r, h', ⟨S', ⟨ins, h1, hs⟩, hn⟩, h0 => by
    refine mj_N_keep hC n S' r h' hn ?_
    obtain ⟨o, he, -⟩ | ⟨x, r, t, -, -, rfl⟩ | ⟨idx, kd, y, n, pp, av, rest, r, h', -, -, -, hc, rfl, -⟩ := hs
    · exact mj_ex_keep h0 he
    · exact h0
    · exact hC _ _ _ _ _ hc h0
theorem mj_C_keep (L : Nat) (xs : Nat → Int32) : ∀ d, mj_keep (mj_C d) L xs
  | 0 => fun _ _ _ _ _ h => h.elim
  | d + 1 => fun y av h r h' ⟨own, maxL, ini, ret, K, n, _, _, hn⟩ h0 => mj_N_keep (mj_C_keep L xs d) n _ r h' hn h0
def mj_rm (d : Nat) (h h' : mj_H) : Room := { frames := d, cells := h'.length - h.length, slots := mj_sz h' - mj_sz h, locals := 40 * d }
def mj_Pc (D : va_G) (cy : Nat → ClassId) (b base L : Nat) (xs : Nat → Int32) (av : List Value) (h : mj_H) : Array Value → State → Prop := fun v U => v = (av.map (mj_v (mj_ad b base))).toArray ∧ U.heap.size + 1 = base + h.length ∧ mj_Rep D cy b base L xs U h U.heap ∧ mj_Kn D cy U
def mj_Qc (D : va_G) (cy : Nat → ClassId) (b base L : Nat) (xs : Nat → Int32) (r : Option Value) (h' : mj_H) : Array Value → State → Outcome → State → Prop := fun _ st o t => o = .returned (r.map (mj_v (mj_ad b base))) ∧ va_P D vwCl (mj_ws cy b base h') t.heap ∧ va_F (fun q => base ≤ q) st t
theorem mj_blind {D : va_G} {cy : Nat → ClassId} {b base L : Nat} {xs : Nat → Int32} {av : List Value} {h : mj_H} : FrameBlind (mj_Pc D cy b base L xs av h) := by
  intro a U g mk hp
  obtain ⟨h1, h2, h3, h4, h5, h6, h7⟩ := hp
  exact ⟨h1, h2, ⟨h3.1, va_X.moved (u := U) (U := U.calling g mk a) (Vm.Alike.refl U.vm) h3.2.1, h3.2.2⟩, va_K.moved (u := U) (U := U.calling g mk a) (Vm.Alike.refl U.vm) h4, va_Nw.same (u := U) (U := U.calling g mk a) rfl rfl h5, va_Nw.same (u := U) (U := U.calling g mk a) rfl rfl h6, h7⟩
/-- a method's contract -/
def mj_Met (l : Launch) (D : va_G) (cy : Nat → ClassId) (b base L : Nat) (xs : Nat → Int32) (d y : Nat) (av : List Value) (h : mj_H) (r : Option Value) (h' : mj_H) : Prop :=
  ∃ q t, mj_nth mj_yb y = some q ∧ mj_nth mj_tab y = some t ∧ Met l q.1 (Cond.code q.1 q.2.1 t.2.1 t.2.2.2.1 :: mj_T) (mj_rm d h h') (mj_Pc D cy b base L xs av h) (mj_Qc D cy b base L xs r h') (h'.length - h.length) (mj_sz h' - mj_sz h) (fun q => base ≤ q)
theorem mj_good {ws : List Cond} (h : ∀ w ∈ ws, w ∈ mj_T) : GoodIn mj_T ws := fun w hw => ⟨h w hw, good_of_word (List.mem_filter.mp (h w hw)).2⟩
set_option maxRecDepth 100000 in
theorem mj_kcy_ok : ((List.range 13).all fun o => (mj_row mj_calT o).all (fun e => Nat.blt e.2.2.1 nL_law)) = true := by decide +kernel
section MM
variable {p : Program} {l : Launch} {e : Env} {R : Room} {s : State} {m : MethodId} {args : Array Value} {below : List Frame} {meth : Method} {c : Code} {Q : State → Prop}
variable {cc : ByteArray} {D : va_G} {cy : Nat → ClassId} {b base L : Nat} {xs : Nat → Int32} {own : Nat} {ini : Bool} {nL n0 z0 : Nat}
theorem mj_goon {H : Heap} {locs : List Loc} {cells slots mc ms pc : Nat} {LS : Array Slot} {st0 rest : List Value} {r : Option Value} {h' : mj_H} {a : Array Value} (hr : va_Run p l e R s m args below meth c H locs cells slots mc ms (F0 m pc LS st0) rest (mj_Qc D cy b base L xs r h' a) (fun q => base ≤ q)) (hS : va_S (fun q => base ≤ q) s.heap H locs)
    (kk : ∀ (H1 : Heap) (locs1 : List Loc), va_P D vwCl (mj_ws cy b base h') H1 → va_S (fun q => base ≤ q) s.heap H1 locs1 → W p l e R s m args below meth c H1 locs1 (cells + mc) (slots + ms) Q (F0 m (pc + 3) LS ((r.map (mj_v (mj_ad b base))).toList ++ rest))) : W p l e R s m args below meth c H locs cells slots Q (F0 m pc LS st0) := by
  intro T hT X
  obtain ⟨v, st₀, t, T', L, h0, X', hL, e1, e2, ⟨hv, hP, hz, hk⟩, st⟩ := hr T hT X
  cases hv
  rw [h0] at hz hk
  obtain ⟨t2, a1, b1⟩ := kk T'.heap (locs ++ L) (by rw [e1]; exact hP)
    ⟨Nat.le_trans hS.1 (by rw [e1]; exact hz), fun q h1 h2 => by rw [e1, hk q (Nat.lt_of_lt_of_le h1 hS.1) h2]; exact hS.2.1 q h1 h2, fun q hq => by
      rcases List.mem_append.mp hq with h | h
      · exact hS.2.2 q h
      · exact hL q h⟩ T' rfl X'
  exact ⟨t2, st t2 a1, b1⟩
/-- where a call leads -/
theorem mj_casW {d : Nat} {pc : Nat} {ls : List (Option Value)} {st : List Value} {h : mj_H} {S' : mj_S} {ins : Instr} {len : Nat} (IH : ∀ y av h r h', y < nL_law → mj_C d y av h r h' → mj_Met l D cy b base L xs d y av h r h') (F : mj_Fix p R s m args meth c cc D cy base own ini nL n0) (hfr : d + 1 ≤ R.frames) (hlo : 40 * (d + 1) ≤ R.locals) (hd : decode cc pc = .ok (ins, len)) (hlen : mj_len ins = 0 ∨ len = mj_len ins) (hn : n0 ≤ h.length) (hz : z0 ≤ mj_sz h) (hrm : S'.2.2.2.length - n0 ≤ R.cells ∧ mj_sz S'.2.2.2 - z0 ≤ R.slots) (hc : mj_cas (mj_C d) own ins pc ls st h S') (k : mj_W p l e R s m args below meth c Q D cy b base L xs nL n0 z0 S') : mj_W p l e R s m args below meth c Q D cy b base L xs nL n0 z0 (pc, ls, st, h) := by
  obtain ⟨idx, kd, y, n, pp, av, rest, r, h', hlk, hst, hcat, hC, rfl, hcase⟩ := hc
  have hmem := mj_lk_mem _ _ _ hlk
  have hy : y < nL_law := mj_blt (mj_range (T := mj_calT) (f := fun _ e => Nat.blt e.2.2.1 nL_law) (Nat.le_of_ble_eq_true rfl) mj_kcy_ok hmem)
  have hkc := mj_range (T := mj_calT) (f := mj_kcal) (Nat.le_of_ble_eq_true rfl) mj_kcal_all hmem
  obtain ⟨q, t, hq, ht, hM⟩ := IH y av h r h' hy hC
  have hmono := mj_C_mono d _ _ _ _ _ hC
  obtain ⟨hx, hb, hml, hown, hts, hini, hK, hsz, -, -⟩ := F
  have hkm := List.all_eq_true.mp mj_kmet_all y (List.mem_range.mpr hy)
  unfold mj_kmet at hkm
  rw [hq, ht] at hkm
  simp only [Bool.and_eq_true, decide_eq_true_eq] at hkm
  obtain ⟨kpl, kcl, kml, kin, kn1, kn2⟩ := hkm
  have hcode := mj_kc_ok hy
  unfold mj_kcP at hcode
  rw [hq, ht] at hcode
  dsimp only at hcode
  unfold mj_kcal at hkc
  dsimp only at hkc
  rw [hq, ht] at hkc
  dsimp only at hkc
  simp only [Bool.and_eq_true, decide_eq_true_eq] at hkc
  obtain ⟨kpar, kini, kkd⟩ := hkc
  have hws : ∀ w ∈ Cond.code q.1 q.2.1 t.2.1 t.2.2.2.1 :: mj_T, w ∈ mj_T := fun w hw => by
    rcases List.mem_cons.mp hw with rfl | hw
    · exact hcode
    · exact hw
  have hroom : (mj_rm d h h').frames + 1 ≤ R.frames ∧ 8 + (t.2.1 + 11) + (mj_rm d h h').locals ≤ R.locals := ⟨hfr, by show 8 + (t.2.1 + 11) + 40 * d ≤ _; omega⟩
  intro H locs LS hR hL hS
  dsimp only at hR hL ⊢
  refine mj_size hsz hn hR hS fun hH => ?_
  have hcs : h.length - n0 + (h'.length - h.length) ≤ R.cells ∧ mj_sz h - z0 + (mj_sz h' - mj_sz h) ≤ R.slots := by
    dsimp only at hrm
    omega
  have hpre : ∀ U : State, U.heap = H → s.WarmedH U.vm → mj_Pc D cy b base L xs av h (av.map (mj_v (mj_ad b base))).toArray U := fun U hU hW => ⟨rfl, by rw [hU]; exact hH, by rw [hU]; exact hR.moved hW.alike, hK.moved hW⟩
  have goon : ∀ (H1 : Heap) (locs1 : List Loc), va_P D vwCl (mj_ws cy b base h') H1 → va_S (fun q => base ≤ q) s.heap H1 locs1 → W p l e R s m args below meth c H1 locs1 (h.length - n0 + (h'.length - h.length)) (mj_sz h - z0 + (mj_sz h' - mj_sz h)) Q (F0 m (pc + 3) LS ((r.map (mj_v (mj_ad b base))).toList ++ rest.map (mj_v (mj_ad b base)))) := by
    intro H1 locs1 hP1 hS1
    have hbs := mj_bs hsz hR
    have hbb : ¬ base ≤ b := Nat.not_le.mpr hR.2.2.2
    have h0 : mj_nth h' 0 = some (.inl (9, L, .inl xs)) := mj_C_keep L xs d _ _ _ _ _ hC hR.2.2.1
    have k2 := k H1 locs1 LS ⟨hP1, hR.2.1.kept (by rw [hS1.2.1 b hbs hbb, hS.2.1 b hbs hbb]), h0, hR.2.2.2⟩ hL hS1
    dsimp only at k2
    rw [show h'.length - n0 = h.length - n0 + (h'.length - h.length) by omega, show mj_sz h' - z0 = mj_sz h - z0 + (mj_sz h' - mj_sz h) by omega, List.map_append, show r.toList.map (mj_v (mj_ad b base)) = (r.map (mj_v (mj_ad b base))).toList by cases r <;> rfl] at k2
    exact k2
  have hrcat : 2 * (F0 m pc LS (st.map (mj_v (mj_ad b base)))).monitorRoom + ((rest.map (mj_v (mj_ad b base))).map fun v => v.category).sum ≤ 8 := by
    rw [mj_cat_map]
    show 2 * 0 + _ ≤ 8
    omega
  have hwsT : ∀ (ws0 : List Cond), (∀ w ∈ ws0, w ∈ mj_T) → ∀ w ∈ ws0 ++ (Cond.code q.1 q.2.1 t.2.1 t.2.2.2.1 :: mj_T), w ∈ mj_T := fun ws0 h0 w hw => by
    rcases List.mem_append.mp hw with hw | hw
    · exact h0 w hw
    · exact hws w hw
  rcases hcase with ⟨rfl, rfl, hnn⟩ | ⟨rfl, rfl, hnn, a, fs, tl, t', rfl, ht', ha⟩ | ⟨rfl, hkd, hnn, a, tl, rfl⟩
  · have e3 : len = 3 := by rcases hlen with q | q; cases q; exact q
    subst e3
    simp only [Bool.and_eq_true, decide_eq_true_eq] at kkd
    obtain ⟨k1, k2⟩ := kkd
    exact mj_goon (va_runS (As := av.map (mj_v (mj_ad b base))) (rest := rest.map (mj_v (mj_ad b base))) ⟨hx, hb, hml, hown, hts⟩ hM (va_cwS n hts (mj_good (hwsT _ (List.forall_mem_cons.mpr ⟨mj_isw_mem k1, List.forall_mem_cons.mpr ⟨mj_isw_mem k2, List.forall_mem_cons.mpr ⟨mj_isw_mem kini, fun _ h => absurd h List.not_mem_nil⟩⟩⟩))) rfl rfl rfl ⟨kn1, kn2, kpar⟩ hroom) ⟨mj_blind, hpre⟩ rfl (by rw [List.length_map]; exact hnn) hL.2.1 (by rw [hst, List.map_append, List.map_reverse]) hrcat hd hcs) hS goon
  · have e3 : len = 3 := by rcases hlen with q | q; cases q; exact q
    subst e3
    simp only [Bool.and_eq_true, decide_eq_true_eq] at kkd
    obtain ⟨k1, k2, k3, k4⟩ := kkd
    have ett : t' = t := Option.some.inj (ht'.symm.trans ht)
    subst ett
    obtain ⟨a', rfl⟩ := mj_pos hR ha (fun q => by cases q)
    have hci : vwCl[t'.1]? = some vwCl[t'.1] := List.getElem?_eq_getElem k4
    have hnm : vwCl[t'.1].1 = q.1.cls := by rw [(mj_cls hci).2.2.2.2.2.1, kcl]
    have hrecv := va_recv hK.1 hR.1 hci (mj_ws_get (cy := cy) (b := b) (base := base) ha)
    rw [hnm] at hrecv
    exact mj_goon (va_runV (As := tl.map (mj_v (mj_ad b base))) (rest := rest.map (mj_v (mj_ad b base))) (b := mj_ad b base (a' + 1)) ⟨hx, hb, hml, hown, hts⟩ hM (cwV n hts (mj_good (hwsT _ (List.forall_mem_cons.mpr ⟨mj_isw_mem k1, List.forall_mem_cons.mpr ⟨mj_isw_mem k2, List.forall_mem_cons.mpr ⟨mj_isw_mem k3, List.forall_mem_cons.mpr ⟨mj_isw_mem kini, fun _ h => absurd h List.not_mem_nil⟩⟩⟩⟩))) rfl rfl rfl ⟨rfl, kn1, kn2, kpar⟩ hroom) ⟨mj_blind, hrecv, hpre⟩ rfl (by rw [List.length_map]; rw [List.length_cons] at hnn; omega) hL.2.1 (by rw [hst]; simp [mj_v]) hrcat hd hcs) hS goon
  · have e3 : len = 3 := by rcases hlen with q | q; cases q; exact q
    subst e3
    rcases hkd with rfl | rfl
    · simp only [Bool.and_eq_true, decide_eq_true_eq] at kkd
      obtain ⟨k1, k2, k3, k4⟩ := kkd
      have hM' := hM
      rw [k4] at hM' hwsT
      exact mj_goon (va_runI (As := tl.map (mj_v (mj_ad b base))) (rest := rest.map (mj_v (mj_ad b base))) (b := mj_ad b base a) ⟨hx, hb, hml, hown, hts⟩ hM' (cwI n hts (mj_good (hwsT [] (fun _ h => absurd h List.not_mem_nil))) rfl rfl rfl (hts _ (mj_isw_mem kini)) (hts _ (mj_isw_mem k1)) (hts _ (mj_isw_mem k2)) k3 ⟨kn1, kn2, kpar⟩ hroom) ⟨mj_blind, hpre⟩ rfl (by rw [List.length_map]; rw [List.length_cons] at hnn; omega) hL.2.1 (by rw [hst]; simp [mj_v]) hrcat hd hcs) hS goon
    · simp only [Bool.and_eq_true, decide_eq_true_eq] at kkd
      obtain ⟨k1, k2, k3, k4⟩ := kkd
      have hM' := hM
      rw [k4] at hM' hwsT
      have hnw : va_Nw (.methodLinkNest (mj_nm own) idx q.1 RX8) s := by
        rcases List.mem_cons.mp k1 with k1 | k1
        · rw [k1]; exact hK.2.1
        · rw [List.mem_singleton.mp k1]; exact hK.2.2.1
      exact mj_goon (va_runIN (As := tl.map (mj_v (mj_ad b base))) (rest := rest.map (mj_v (mj_ad b base))) (b := mj_ad b base a) ⟨hx, hb, hml, hown, hts⟩ hM' ⟨va_cnB n hts (mj_good (hwsT [] (fun _ h => absurd h List.not_mem_nil))) rfl rfl rfl hnw (hts _ (mj_isw_mem kini)) ⟨kn1, kn2, kpar⟩ hroom, k3, hts _ (mj_isw_mem k2)⟩ ⟨mj_blind, hpre⟩ rfl (by rw [List.length_map]; rw [List.length_cons] at hnn; omega) hL.2.1 (by rw [hst]; simp [mj_v]) hrcat hd hcs) hS goon
/-- a switch -/
theorem mj_swW {pc : Nat} {ls : List (Option Value)} {rest : List Value} {h : mj_H} {x : Int32} {t : Nat} {ins : Instr} {len : Nat} (hx : p.tables.exec = Jvm.exec) (hb : c.code = cc) (hd : decode cc pc = .ok (ins, len)) (hs : mj_sw ins pc x t) (k : mj_W p l e R s m args below meth c Q D cy b base L xs nL n0 z0 (t, ls, rest, h)) : mj_W p l e R s m args below meth c Q D cy b base L xs nL n0 z0 (pc, ls, .int x :: rest, h) := by
  unfold mj_sw at hs
  split at hs
  · rcases hs with ⟨h1, h2⟩ | ⟨h1, h2, off, h3, h4⟩
    · exact fun H locs LS hR hL hS => lv_tableOut hx hb hd h1 h2 (k H locs LS hR hL hS)
    · exact fun H locs LS hR hL hS => lv_tableIn hx hb hd h1 h2 h3 h4 (k H locs LS hR hL hS)
  · exact fun H locs LS hR hL hS => lv_lookup hx hb hd hs.1 rfl hs.2 (k H locs LS hR hL hS)
  · exact hs.elim
/-- a run within a method, to its end -/
theorem mj_NW {d : Nat} {ret : Option FieldType} {K : mj_K} {r : Option Value} {h' : mj_H} (IH : ∀ y av h r h', y < nL_law → mj_C d y av h r h' → mj_Met l D cy b base L xs d y av h r h') (F : mj_Fix p R s m args meth c cc D cy base own ini nL n0) (hfr : d + 1 ≤ R.frames) (hlo : 40 * (d + 1) ≤ R.locals)
    (hK : ∀ pc ins, mj_ld K pc = some ins → ∃ len, decode cc pc = .ok (ins, len) ∧ (mj_len ins = 0 ∨ len = mj_len ins)) (hrm : h'.length - n0 ≤ R.cells ∧ mj_sz h' - z0 ≤ R.slots)
    (hE : ∀ (S : mj_S) (ins : Instr) (o : Option Prop), mj_ld K S.1 = some ins → mj_rt ret ins S.2.2.1 = some (o, r) → mj_ok o → h' = S.2.2.2 → mj_W p l e R s m args below meth c Q D cy b base L xs nL n0 z0 S) :
    ∀ (n : Nat) (S : mj_S), mj_N (mj_C d) own ini ret K n S r h' → n0 ≤ S.2.2.2.length → z0 ≤ mj_sz S.2.2.2 → mj_W p l e R s m args below meth c Q D cy b base L xs nL n0 z0 S
  | 0, S, ⟨ins, o, h1, h2, h3, h4⟩, _, _ => hE S ins o h1 h2 h3 h4
  | n + 1, S, ⟨S', hs, hn⟩, hn0, hz0 => by
    have m1 := mj_step_mono (mj_C_mono d) hs
    have m2 := mj_N_mono (mj_C_mono d) n S' r h' hn
    have k := mj_NW IH F hfr hlo hK hrm hE n S' hn (Nat.le_trans hn0 m1.1) (Nat.le_trans hz0 m1.2)
    obtain ⟨ins, h1, hs⟩ := hs
    obtain ⟨len, hd, hlen⟩ := hK S.1 ins h1
    obtain ⟨pc, ls, st, h⟩ := S
    dsimp only at h1 hd hs hn0 hz0 m1
    have hr0 : h.length - n0 ≤ R.cells ∧ mj_sz h - z0 ≤ R.slots := by omega
    have hr1 : S'.2.2.2.length - n0 ≤ R.cells ∧ mj_sz S'.2.2.2 - z0 ≤ R.slots := by omega
    rcases hs with ⟨o, he, ho⟩ | ⟨x, rr, t, hst, hsw, rfl⟩ | hc
    · rcases hlen with q | q
      · exfalso
        cases ins <;> first | (cases q; done) | (simp [mj_ex] at he; done)
      · subst q
        exact mj_exW F hd hn0 hz0 hr0 hr1 he ho k
    · subst hst
      exact mj_swW F.1 F.2.1 hd hsw k
    · exact mj_casW IH F hfr hlo hd hlen hn0 hz0 hr1 hc k
theorem mj_argl_len (ad : Nat → Nat) : ∀ av : List Value, (lg_sl (av.map (mj_v ad))).length = (mj_argl av).length
  | [] => rfl
  | v :: vs => by
    have ih := mj_argl_len ad vs
    simp only [lg_sl] at ih
    simp only [List.map_cons, lg_sl, List.flatMap_cons, List.length_append, mj_argl, mj_v_cat, ih]
    cases hc : Nat.beq v.category 2 with
    | true =>
      rw [if_pos (Nat.eq_of_beq_eq_true hc)]
      simp
      omega
    | false =>
      rw [if_neg (fun q => by rw [q] at hc; cases hc)]
      simp
      omega
theorem mj_pad_len : ∀ (n : Nat) (l : List (Option Value)), (mj_pad l n).length = n
  | 0, l => rfl
  | n + 1, [] => by simp [mj_pad, mj_pad_len n []]
  | n + 1, a :: t => by simp [mj_pad, mj_pad_len n t]
theorem mj_pad_ld : ∀ (n : Nat) (l : List (Option Value)) (j : Nat) (w : Value), mj_ld (mj_pad l n) j = some w → mj_ld l j = some w
  | 0, l, j, w, h => by cases h
  | n + 1, [], 0, w, h => by cases h
  | n + 1, [], j + 1, w, h => by
    have := mj_pad_ld n [] j w h
    cases this
  | n + 1, a :: t, 0, w, h => h
  | n + 1, a :: t, j + 1, w, h => mj_pad_ld n t j w h
theorem mj_argl_ld (ad : Nat → Nat) : ∀ (av : List Value) (i j : Nat) (w : Value), mj_ld (mj_argl av) j = some w → (i + j, mj_v ad w) ∈ lv_args i (av.map (mj_v ad))
  | [], i, j, w, h => by cases h
  | v :: vs, i, j, w, h => by
    simp only [List.map_cons, lv_args, mj_v_cat]
    unfold mj_argl at h
    cases hc : Nat.beq v.category 2 with
    | true =>
      rw [hc] at h
      rw [if_pos (Nat.eq_of_beq_eq_true hc)]
      match j, h with
      | 0, h =>
        cases h
        exact List.mem_cons_self
      | 1, h => cases h
      | j + 2, h =>
        have ih := mj_argl_ld ad vs (i + 2) j w h
        rw [show i + (j + 2) = i + 2 + j by omega]
        exact List.mem_cons_of_mem _ ih
    | false =>
      rw [hc] at h
      rw [if_neg (fun q => by rw [q] at hc; cases hc)]
      match j, h with
      | 0, h =>
        cases h
        exact List.mem_cons_self
      | j + 1, h =>
        have ih := mj_argl_ld ad vs (i + 1) j w h
        rw [show i + (j + 1) = i + 1 + j by omega]
        exact List.mem_cons_of_mem _ ih
theorem mj_entry {ad : Nat → Nat} {av : List Value} {LS : Array Slot} {maxL : Nat} (hl : lv_has LS maxL (lv_args 0 (av.map (mj_v ad)))) : mj_L ad (mj_pad (mj_argl av) maxL) LS maxL :=
  ⟨mj_pad_len _ _, hl.1, hl.2.1, fun j w hj => by
    have h1 := mj_argl_ld ad av 0 j w (mj_pad_ld _ _ _ _ hj)
    rw [Nat.zero_add] at h1
    exact hl.2.2 _ h1⟩
/-- THE CONTRACT OF EVERY METHOD, by what the small machine does -/
theorem mj_sound (l : Launch) (D : va_G) (cy : Nat → ClassId) (b base L : Nat) (xs : Nat → Int32) : ∀ (d y : Nat) (av : List Value) (h : mj_H) (r : Option Value) (h' : mj_H), y < nL_law → mj_C d y av h r h' → mj_Met l D cy b base L xs d y av h r h'
  | 0, y, av, h, r, h', _, hc => hc.elim
  | d + 1, y, av, h, r, h', hy, ⟨own, maxL, ini, ret, K, n, htab, harg, hN⟩ => by
    have IH := mj_sound l D cy b base L xs d
    have hmono := mj_N_mono (mj_C_mono d) n _ r h' hN
    have hkm := List.all_eq_true.mp mj_kmet_all y (List.mem_range.mpr hy)
    unfold mj_kmet at hkm
    cases hq : mj_nth mj_yb y with
    | none => rw [hq] at hkm; cases hkm
    | some q =>
      rw [hq, htab] at hkm
      simp only [Bool.and_eq_true, decide_eq_true_eq] at hkm
      obtain ⟨kpl, kcl, kml, kin, kn1, kn2⟩ := hkm
      have hdec := mj_d_ok hy
      unfold mj_dP at hdec
      rw [hq, htab] at hdec
      dsimp only at hdec
      refine ⟨q, _, hq, htab, ?_⟩
      dsimp only
      refine Met.ofW (cc := q.2.1) (maxL := maxL) (ret := ret) kpl rfl ?_
      intro p e s m args below meth c s₁ B hml hv
      obtain ⟨rfl, hsz, hR, hKn⟩ := hv
      have hx := B.exec
      have hb := B.bytes
      have hr := B.returns
      have hts0 := atoms_spec (ws := Cond.code q.1 q.2.1 maxL ret :: mj_T) B.pre
      have hts : ∀ w ∈ mj_T, w.before _ s = true := fun w hw => hts0 w (List.mem_cons_of_mem _ hw)
      have hown : s.vm.findClass (mj_nm own) = some m.cls := by rw [← kcl]; exact findClass_of_methodNamed B.named
      have hlocks := B.notSynchronized
      have hin : ini = true → meth.name = "<init>" := fun hi => by
        rw [(name_of_methodNamed B.named B.method).1]
        rw [hi] at kin
        simpa using kin
      have hl := lv_entry (av.map (mj_v (mj_ad b base))) (n := maxL) (by rw [mj_argl_len]; exact harg)
      rw [lg_entry_eq]
      generalize (lg_sl (av.map (mj_v (mj_ad b base))) ++ List.replicate (maxL - (lg_sl (av.map (mj_v (mj_ad b base)))).length) Slot.unset).toArray = LS at hl ⊢
      have hL : mj_L (mj_ad b base) (mj_pad (mj_argl av) maxL) LS maxL := mj_entry hl
      have F : mj_Fix p (headSpec (Cond.code q.1 q.2.1 maxL ret :: mj_T) (mj_rm (d + 1) h h')).room s m (av.map (mj_v (mj_ad b base))).toArray meth c q.2.1 D cy base own ini maxL h.length := ⟨hx, hb, hml, hown, hts, hin, hKn, ⟨hsz, hR.pos⟩, Nat.succ_le_succ (Nat.zero_le d), by show 40 ≤ 40 * (d + 1); omega⟩
      have k := mj_NW (l := l) (below := below) (e := e) (Q := MQ below (mj_Qc D cy b base L xs r h') (av.map (mj_v (mj_ad b base))).toArray s (h'.length - h.length) (mj_sz h' - mj_sz h) (fun q => base ≤ q)) (z0 := mj_sz h) IH F (Nat.le_refl _) (Nat.le_refl _) (fun pc ins hi => by
          obtain ⟨len, a1, a2⟩ := mj_dc_at (pc0 := 0) hdec hi
          rw [Nat.zero_add] at a1
          exact ⟨len, a1, a2⟩) ⟨Nat.le_refl _, Nat.le_refl _⟩ (fun S ins o h1 h2 h3 h4 => ?_) n _ hN (Nat.le_refl _) (Nat.le_refl _)
      · have k2 := k s.heap [] LS hR hL va_S.rf
        dsimp only at k2
        rw [Nat.sub_self, Nat.sub_self] at k2
        exact k2
      · subst h4
        obtain ⟨len, a1, a2⟩ := mj_dc_at (pc0 := 0) hdec h1
        rw [Nat.zero_add] at a1
        intro H locs LS' hR' hL' hS'
        obtain ⟨pc', ls', st', h'⟩ := S
        dsimp only at h1 h2 a1 hR' hL' ⊢
        unfold mj_rt at h2
        split at h2
        · cases h2
          have e1 : len = 1 := by rcases a2 with q | q; cases q; exact q
          subst e1
          exact W.iret hx hb hr (fun t ht _ => ⟨rfl, by rw [ht]; exact hR'.1, hS'.F ht⟩) (fun q hq => hS'.2.2 q hq) a1
        · cases h2
          have e1 : len = 1 := by rcases a2 with q | q; cases q; exact q
          subst e1
          exact W.zret hx hb hr (by rcases h3 with rfl | rfl <;> rfl) (fun t ht _ => ⟨rfl, by rw [ht]; exact hR'.1, hS'.F ht⟩) (fun q hq => hS'.2.2 q hq) a1
        · cases h2
          have e1 : len = 1 := by rcases a2 with q | q; cases q; exact q
          subst e1
          exact W.lret hx hb hr (fun t ht _ => ⟨rfl, by rw [ht]; exact hR'.1, hS'.F ht⟩) (fun q hq => hS'.2.2 q hq) a1
        · cases h2
          have e1 : len = 1 := by rcases a2 with q | q; cases q; exact q
          subst e1
          exact W.vret hx hb hr (fun t ht _ => ⟨rfl, by rw [ht]; exact hR'.1, hS'.F ht⟩) (fun q hq => hS'.2.2 q hq) a1
        · cases h2
end MM
