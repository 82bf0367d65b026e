/-! arrays, new cells, calls of the library -/
section MGA
variable {p : Program} {l : Launch} {e : Env} {R : Room} {s : State} {m : MethodId} {args : Array Value} {below : List Frame} {meth : Method} {c : Code} {Q : State → Prop}
variable {cc : ByteArray} {D : va_G} {cy : Nat → ClassId} {b base L : Nat} {xs : Nat → Int32} {own : Nat} {ini : Bool} {nL n0 z0 : Nat}
variable {pc : Nat} {ls : List (Option Value)} {st : List Value} {h : mj_H} {o : Option Prop} {S' : mj_S}
theorem mj_giald (F : mj_Fix p R s m args meth c cc D cy base own ini nL n0) (hd : decode cc pc = .ok (.iaload, 1)) (he : mj_iald pc ls st h = some (o, S')) (ho : mj_ok o) (k : mj_W p l e R s m args below meth c Q D cy b base L xs nL n0 z0 S') : mj_W p l e R s m args below meth c Q D cy b base L xs nL n0 z0 (pc, ls, st, h) := by
  obtain ⟨hx, hb, hml, hown, hts, hini, hK, hsz, hfr, hlo⟩ := F
  unfold mj_iald at he
  split at he
  · next i a r =>
    split at he
    · next t n f ha =>
      cases hc : (Nat.beq t 0 || (Nat.beq t 9 && Nat.beq a 0)) with
      | false => rw [hc] at he; cases he
      | true =>
        rw [hc] at he
        cases he
        intro H locs LS hR hL hS
        cases a with
        | zero =>
          have e1 := Option.some.inj (ha.symm.trans hR.2.2.1)
          cases e1
          exact va_sld hx hb (hR.2.1.kept (hS.2.1 b (mj_bs hsz hR) (Nat.not_le.mpr hR.2.2.2)).symm) (mj_bs hsz hR) (Nat.not_le.mpr hR.2.2.2) hS ho hd (k H locs LS hR hL hS)
        | succ a' =>
          have hw := mj_ws_get (cy := cy) (b := b) (base := base) ha
          have h4 : t = 0 := by
            rcases (Bool.or_eq_true _ _).mp hc with q | q
            · exact Nat.eq_of_beq_eq_true q
            · have q2 := Nat.eq_of_beq_eq_true ((Bool.and_eq_true _ _).mp q).2
              omega
          subst h4
          exact va_iald hx hb hK.1 hR.1 a' 0 hw rfl ho hd (k H locs LS hR hL hS)
    · cases he
  · cases he
theorem mj_gbald (F : mj_Fix p R s m args meth c cc D cy base own ini nL n0) (hd : decode cc pc = .ok (.baload, 1)) (he : mj_bald pc ls st h = some (o, S')) (ho : mj_ok o) (k : mj_W p l e R s m args below meth c Q D cy b base L xs nL n0 z0 S') : mj_W p l e R s m args below meth c Q D cy b base L xs nL n0 z0 (pc, ls, st, h) := by
  obtain ⟨hx, hb, hml, hown, hts, hini, hK, hsz, hfr, hlo⟩ := F
  unfold mj_bald at he
  split at he
  · next i a r =>
    split at he
    · next t n f ha =>
      cases hc : (Nat.beq t 1 || Nat.beq t 2) with
      | false => rw [hc] at he; cases he
      | true =>
        rw [hc] at he
        cases he
        intro H locs LS hR hL hS
        have h12 : t = 1 ∨ t = 2 := by
          rcases (Bool.or_eq_true _ _).mp hc with q | q
          · exact Or.inl (Nat.eq_of_beq_eq_true q)
          · exact Or.inr (Nat.eq_of_beq_eq_true q)
        obtain ⟨a', rfl⟩ := mj_pos hR ha (fun q => by
          have := congrArg (fun z : mj_E => match z with | .inl y => y.1 | .inr y => y.1) q
          simp at this
          omega)
        have hw := mj_ws_get (cy := cy) (b := b) (base := base) ha
        rcases h12 with h4 | h4
        · subst h4
          exact va_bald hx hb hK.1 hR.1 a' 1 hw rfl ho hd (k H locs LS hR hL hS)
        · subst h4
          exact va_zald hx hb hK.1 hR.1 a' 2 hw rfl ho hd (k H locs LS hR hL hS)
    · cases he
  · cases he
theorem mj_glald (F : mj_Fix p R s m args meth c cc D cy base own ini nL n0) (hd : decode cc pc = .ok (.laload, 1)) (he : mj_lald pc ls st h = some (o, S')) (ho : mj_ok o) (k : mj_W p l e R s m args below meth c Q D cy b base L xs nL n0 z0 S') : mj_W p l e R s m args below meth c Q D cy b base L xs nL n0 z0 (pc, ls, st, h) := by
  obtain ⟨hx, hb, hml, hown, hts, hini, hK, hsz, hfr, hlo⟩ := F
  unfold mj_lald at he
  split at he
  · next i a r =>
    split at he
    · next t n f ha =>
      cases hc : Nat.beq t 3 with
      | false => rw [hc] at he; cases he
      | true =>
        rw [hc] at he
        cases he
        have h4 := Nat.eq_of_beq_eq_true hc
        subst h4
        intro H locs LS hR hL hS
        obtain ⟨a', rfl⟩ := mj_pos hR ha (fun q => by cases q)
        exact va_lald hx hb hK.1 hR.1 a' 3 (mj_ws_get (cy := cy) (b := b) (base := base) ha) rfl ho hd (k H locs LS hR hL hS)
    · cases he
  · cases he
/-- behind a store: the cells with one put anew -/
theorem mj_stored {a' : Nat} {e0 e' : mj_E} {H H1 : Heap} {locs locs1 : List Loc} {LS : Array Slot} {pc' : Nat} {r : List Value} (hsz : s.heap.size + 1 = base + n0 ∧ 1 ≤ n0) (ha : mj_nth h (a' + 1) = some e0) (hs1 : mj_sz1 e' = mj_sz1 e0) (hR : mj_Rep D cy b base L xs s h H) (hL : mj_L (mj_ad b base) ls LS nL) (hS : va_S (fun q => base ≤ q) s.heap H locs) (k : mj_W p l e R s m args below meth c Q D cy b base L xs nL n0 z0 (pc', ls, r, h.set (a' + 1) e'))
    (hP1 : va_P D vwCl ((mj_ws cy b base h).set a' (mj_ad b base (a' + 1), mj_e cy (mj_ad b base) e')) H1) (hS1 : va_S (fun q => base ≤ q) s.heap H1 locs1) : W p l e R s m args below meth c H1 locs1 (h.length - n0) (mj_sz h - z0) Q (F0 m pc' LS (r.map (mj_v (mj_ad b base)))) := by
  have hlen : (h.set (a' + 1) e').length = h.length := List.length_set
  have hszz : mj_sz (h.set (a' + 1) e') = mj_sz h := mj_sz_set h (a' + 1) _ _ ha hs1
  have k2 := k H1 locs1 LS (hR.put hS1 ⟨_, hS⟩ (mj_bs hsz hR) hP1) hL hS1
  dsimp only at k2
  rw [hlen, hszz] at k2
  exact k2
theorem mj_giast (F : mj_Fix p R s m args meth c cc D cy base own ini nL n0) (hd : decode cc pc = .ok (.iastore, 1)) (he : mj_iast pc ls st h = some (o, S')) (ho : mj_ok o) (k : mj_W p l e R s m args below meth c Q D cy b base L xs nL n0 z0 S') : mj_W p l e R s m args below meth c Q D cy b base L xs nL n0 z0 (pc, ls, st, h) := by
  obtain ⟨hx, hb, hml, hown, hts, hini, hK, hsz, hfr, hlo⟩ := F
  unfold mj_iast at he
  split at he
  · next x i a r =>
    split at he
    · next t n f ha =>
      cases hc : Nat.beq t 0 with
      | false => rw [hc] at he; cases he
      | true =>
        rw [hc] at he
        cases he
        have h4 := Nat.eq_of_beq_eq_true hc
        subst h4
        intro H locs LS hR hL hS
        obtain ⟨a', rfl⟩ := mj_pos hR ha (fun q => by cases q)
        exact va_iast hx hb hK.1 hR.1 mj_ws_D hS a' 0 (mj_ws_get (cy := cy) (b := b) (base := base) ha) rfl ho hd (fun H1 locs1 hP1 _ hS1 => mj_stored (e' := .inl (0, n, .inl (upd f i.toNatClampNeg x))) hsz ha rfl hR hL hS k hP1 hS1)
    · cases he
  · cases he
theorem mj_gbast (F : mj_Fix p R s m args meth c cc D cy base own ini nL n0) (hd : decode cc pc = .ok (.bastore, 1)) (he : mj_bast pc ls st h = some (o, S')) (ho : mj_ok o) (k : mj_W p l e R s m args below meth c Q D cy b base L xs nL n0 z0 S') : mj_W p l e R s m args below meth c Q D cy b base L xs nL n0 z0 (pc, ls, st, h) := by
  obtain ⟨hx, hb, hml, hown, hts, hini, hK, hsz, hfr, hlo⟩ := F
  unfold mj_bast at he
  split at he
  · next x i a r =>
    split at he
    · next n f ha =>
      cases he
      intro H locs LS hR hL hS
      obtain ⟨a', rfl⟩ := mj_pos hR ha (fun q => by cases q)
      exact va_bast hx hb hK.1 hR.1 mj_ws_D hS a' 1 (mj_ws_get (cy := cy) (b := b) (base := base) ha) rfl ho hd (fun H1 locs1 hP1 _ hS1 => mj_stored (e' := .inl (1, n, .inl (upd f i.toNatClampNeg x.toInt8.toInt32))) hsz ha rfl hR hL hS k (by rw [vp_nar_byte] at hP1; exact hP1) hS1)
    · next n f ha =>
      cases he
      intro H locs LS hR hL hS
      obtain ⟨a', rfl⟩ := mj_pos hR ha (fun q => by cases q)
      exact va_zast hx hb hK.1 hR.1 mj_ws_D hS a' 2 (mj_ws_get (cy := cy) (b := b) (base := base) ha) rfl ho hd (fun H1 locs1 hP1 _ hS1 => mj_stored (e' := .inl (2, n, .inl (upd f i.toNatClampNeg (vp_nar .boolean x)))) hsz ha rfl hR hL hS k hP1 hS1)
    · cases he
  · cases he
theorem mj_glast (F : mj_Fix p R s m args meth c cc D cy base own ini nL n0) (hd : decode cc pc = .ok (.lastore, 1)) (he : mj_last pc ls st h = some (o, S')) (ho : mj_ok o) (k : mj_W p l e R s m args below meth c Q D cy b base L xs nL n0 z0 S') : mj_W p l e R s m args below meth c Q D cy b base L xs nL n0 z0 (pc, ls, st, h) := by
  obtain ⟨hx, hb, hml, hown, hts, hini, hK, hsz, hfr, hlo⟩ := F
  unfold mj_last at he
  split at he
  · next x i a r =>
    split at he
    · next t n f ha =>
      cases hc : Nat.beq t 3 with
      | false => rw [hc] at he; cases he
      | true =>
        rw [hc] at he
        cases he
        have h4 := Nat.eq_of_beq_eq_true hc
        subst h4
        intro H locs LS hR hL hS
        obtain ⟨a', rfl⟩ := mj_pos hR ha (fun q => by cases q)
        exact va_last hx hb hK.1 hR.1 mj_ws_D hS a' 3 (mj_ws_get (cy := cy) (b := b) (base := base) ha) rfl ho hd (fun H1 locs1 hP1 _ hS1 => mj_stored (e' := .inl (3, n, .inr (vp_updL f i.toNatClampNeg x))) hsz ha rfl hR hL hS k hP1 hS1)
    · cases he
  · cases he
theorem mj_gacp {idx : Nat} (F : mj_Fix p R s m args meth c cc D cy base own ini nL n0) (hd : decode cc pc = .ok (.invokestatic idx, 3)) (he : mj_acp pc ls st h own idx = some (o, S')) (ho : mj_ok o) (k : mj_W p l e R s m args below meth c Q D cy b base L xs nL n0 z0 S') : mj_W p l e R s m args below meth c Q D cy b base L xs nL n0 z0 (pc, ls, st, h) := by
  obtain ⟨hx, hb, hml, hown, hts, hini, hK, hsz, hfr, hlo⟩ := F
  unfold mj_acp at he
  split at he
  · next n dp a1 sp a0 r =>
    split at he
    · next ps hps =>
      split at he
      · next t0 m0 f t1 m1 g ha0 ha1 =>
        cases hc : (Nat.beq t0 0 && (Nat.beq t1 0 && Nat.ble (mj_cat r) 8)) with
        | false => rw [hc] at he; cases he
        | true =>
          rw [hc] at he
          cases he
          simp only [Bool.and_eq_true] at hc
          obtain ⟨c1, c2, c3⟩ := hc
          have h4 := Nat.eq_of_beq_eq_true c1
          subst h4
          have h5 := Nat.eq_of_beq_eq_true c2
          subst h5
          have c3 := Nat.le_of_ble_eq_true c3
          have hm := mj_isw_mem (mj_range (T := mj_acpT) (f := fun o e => mj_isw e.2 (.methodLink (mj_nm o) e.1 arraycopyName)) (Nat.le_of_ble_eq_true rfl) mj_kacp_ok (mj_lk_mem _ _ _ hps))
          have hm2 := mj_kacp2_ok
          simp only [Bool.and_eq_true] at hm2
          obtain ⟨o1, o2, o3, o4, o5⟩ := ho
          intro H locs LS hR hL hS
          obtain ⟨b0, rfl⟩ := mj_pos hR ha0 (fun q => by cases q)
          obtain ⟨b1, rfl⟩ := mj_pos hR ha1 (fun q => by cases q)
          refine va_copyi hx hb (by rw [hml]; exact hL.2.1.symm) hown (hts _ hm) (hts _ (mj_isw_mem hm2.1)) (hts _ (mj_isw_mem hm2.2.1)) (hts _ (mj_isw_mem hm2.2.2)) hK.1 hR.1 mj_ws_D hS b0 b1 0 0 (mj_ws_get (cy := cy) (b := b) (base := base) ha0) (mj_ws_get (cy := cy) (b := b) (base := base) ha1) rfl rfl rfl o1 o2 o3 o4 o5 (fun i _ => rfl) hfr ?_ hd (fun H1 locs1 hP1 _ hS1 => mj_stored (e' := .inl (0, m1, .inl (va_cpy f g sp.toNatClampNeg dp.toNatClampNeg n.toNatClampNeg))) hsz ha1 rfl hR hL hS k hP1 hS1)
          rw [mj_cat_map]
          have : nativeFrameWords "java/lang/System" "arraycopy" 5 = 7 := by decide
          omega
      · cases he
    · cases he
  · cases he
theorem mj_gstat {idx : Nat} (F : mj_Fix p R s m args meth c cc D cy base own ini nL n0) (hd : decode cc pc = .ok (.invokestatic idx, 3)) (hrm : h.length - n0 ≤ R.cells ∧ mj_sz h - z0 ≤ R.slots) (he : mj_stat pc ls st h own idx = some (o, S')) (ho : mj_ok o) (k : mj_W p l e R s m args below meth c Q D cy b base L xs nL n0 z0 S') : mj_W p l e R s m args below meth c Q D cy b base L xs nL n0 z0 (pc, ls, st, h) := by
  unfold mj_stat at he
  split at he
  · next ps hps =>
    split at he
    · next y x r =>
      cases hc : Nat.ble (mj_cat r) 8 with
      | false => rw [hc] at he; cases he
      | true =>
        rw [hc] at he
        cases he
        obtain ⟨hx, hb, hml, hown, hts, hini, hK, hsz, hfr, hlo⟩ := F
        have c3 := Nat.le_of_ble_eq_true hc
        have hm := mj_isw_mem (mj_range (T := mj_maxT) (f := fun o e => mj_isw e.2 (.methodLink (mj_nm o) e.1 Lib.Math.max.name)) (Nat.le_of_ble_eq_true rfl) mj_kmax_ok (mj_lk_mem _ _ _ hps))
        have hm2 := mj_kmax2_ok
        simp only [Bool.and_eq_true] at hm2
        intro H locs LS hR hL hS
        exact va_mmax hx hb (by rw [hml]; exact hL.2.1.symm) hown (hts _ hm) (hts _ (mj_isw_mem hm2.1)) (hts _ (mj_isw_mem hm2.2.1)) (hts _ (mj_isw_mem hm2.2.2)) hfr (by rw [mj_cat_map]; omega) hrm.1 hrm.2 hd (k H locs LS hR hL hS)
    · cases he
  · exact mj_gacp F hd he ho k
theorem mj_gobj {idx : Nat} (F : mj_Fix p R s m args meth c cc D cy base own ini nL n0) (hd : decode cc pc = .ok (.invokespecial idx, 3)) (he : mj_obj pc ls st h own idx = some (o, S')) (k : mj_W p l e R s m args below meth c Q D cy b base L xs nL n0 z0 S') : mj_W p l e R s m args below meth c Q D cy b base L xs nL n0 z0 (pc, ls, st, h) := by
  obtain ⟨hx, hb, hml, hown, hts, hini, hK, hsz, hfr, hlo⟩ := F
  unfold mj_obj at he
  split at he
  · next a r =>
    split at he
    · next ps hps =>
      cases hc : Nat.ble (mj_cat r) 8 with
      | false => rw [hc] at he; cases he
      | true =>
        rw [hc] at he
        cases he
        have c3 := Nat.le_of_ble_eq_true hc
        have hm := mj_isw_mem (mj_range (T := mj_objT) (f := fun o e => mj_isw e.2 (.methodLink (mj_nm o) e.1 objectInit)) (Nat.le_of_ble_eq_true rfl) mj_kobj_ok (mj_lk_mem _ _ _ hps))
        have hm2 := mj_kobj2_ok
        simp only [Bool.and_eq_true] at hm2
        intro H locs LS hR hL hS
        refine W.objInit hx hb hown (hts _ hm) (hts _ (mj_isw_mem hm2.1)) (hts _ (mj_isw_mem hm2.2)) rfl (by rw [hml]; exact hL.2.1) (a := mj_ad b base a) (rest := r.map (mj_v (mj_ad b base))) rfl hd hfr ?_ (k H locs LS hR hL hS)
        show 2 * 0 + _ + 12 ≤ _
        rw [mj_cat_map]
        omega
    · cases he
  · cases he
end MGA
