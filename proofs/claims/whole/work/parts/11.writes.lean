/-! instructions that write or make cells -/
section MGW
variable {p : Program} {l : Launch} {e : Env} {R : Room} {s : State} {m : MethodId} {args : Array Value} {below : List Frame} {meth : Method} {c : Code} {Q : State → Prop}
variable {cc : ByteArray} {D : va_G} {cy : Nat → ClassId} {b base L : Nat} {xs : Nat → Int32} {own : Nat} {ini : Bool} {nL n0 z0 : Nat}
variable {pc : Nat} {ls : List (Option Value)} {st : List Value} {h : mj_H} {o : Option Prop} {S' : mj_S}
theorem mj_bs (hsz : s.heap.size + 1 = base + n0 ∧ 1 ≤ n0) {H : Heap} (hR : mj_Rep D cy b base L xs s h H) : b < s.heap.size := by
  have := hR.2.2.2
  omega
theorem mj_gputf {idx : Nat} (F : mj_Fix p R s m args meth c cc D cy base own ini nL n0) (hd : decode cc pc = .ok (.putfield idx, 3)) (he : mj_putf pc ls st h own ini idx = some (o, S')) (k : mj_W p l e R s m args below meth c Q D cy b base L xs nL n0 z0 S') : mj_W p l e R s m args below meth c Q D cy b base L xs nL n0 z0 (pc, ls, st, h) := by
  obtain ⟨hx, hb, hml, hown, hts, hini, hK, hsz, hfr, hlo⟩ := F
  unfold mj_putf at he
  split at he
  · next v a r =>
    split at he
    · next ci k1 tg fin ps hf =>
      split at he
      · next c1 fs ha =>
        cases hc : (Nat.beq c1 ci && ((!fin || (ini && Nat.beq ci own)) && (mj_fit tg v && Nat.blt k1 fs.length))) with
        | false => rw [hc] at he; cases he
        | true =>
          rw [hc] at he
          cases he
          simp only [Bool.and_eq_true] at hc
          obtain ⟨c2, c3, c4, c5⟩ := hc
          have e1 := Nat.eq_of_beq_eq_true c2
          subst e1
          obtain ⟨q, hq, a1, a2, a3, a4, a5, a6⟩ := mj_fld hf
          obtain ⟨ty, b1, b2, b3⟩ := mj_fit_ok (ad := mj_ad b base) c4 a6
          obtain ⟨g1, ⟨ty0, g2⟩, g3, -⟩ := mj_cls hq
          have hkl : k1 < (fs.map (mj_v (mj_ad b base))).length := by
            rw [List.length_map]
            exact mj_blt c5
          intro H locs LS hR hL hS
          obtain ⟨a', rfl⟩ := mj_pos hR ha (fun q => by cases q)
          have hlen : (h.set (a' + 1) (.inr (c1, fs.set k1 v))).length = h.length := List.length_set
          have hszz : mj_sz (h.set (a' + 1) (.inr (c1, fs.set k1 v))) = mj_sz h := mj_sz_set h (a' + 1) _ _ ha (by simp [mj_sz1])
          have kk : ∀ (H1 : Heap) (locs1 : List Loc), va_P D vwCl ((mj_ws cy b base h).set a' (mj_ad b base (a' + 1), .inr (c1, (fs.map (mj_v (mj_ad b base))).set k1 (mj_v (mj_ad b base) v)))) H1 → va_S (fun q => base ≤ q) s.heap H1 locs1 → W p l e R s m args below meth c H1 locs1 (h.length - n0) (mj_sz h - z0) Q (F0 m (pc + 3) LS (r.map (mj_v (mj_ad b base)))) := by
            intro H1 locs1 hP1 hS1
            have k2 := k H1 locs1 LS (hR.put hS1 ⟨_, hS⟩ (mj_bs hsz hR) (by
              rw [← List.map_set] at hP1
              exact hP1)) hL hS1
            dsimp only at k2
            rw [hlen, hszz] at k2
            exact k2
          cases fin with
          | false => exact va_put hx hb hts g1 ty0 g2 g3 hown hK.1 hR.1 mj_ws_D hS a' (mj_ws_get ha) hq k1 a1 (hts _ a5) (fun x hx => hx) a4 b1 b2 b3 hkl hd (fun H1 locs1 hP1 _ hS1 => kk H1 locs1 hP1 hS1)
          | true =>
            simp only [Bool.not_true, Bool.false_or, Bool.and_eq_true] at c3
            have e2 := Nat.eq_of_beq_eq_true c3.2
            exact va_putF hx hb hts g1 ty0 g2 g3 hown hK.1 hR.1 mj_ws_D hS a' (mj_ws_get ha) hq k1 a1 (hts _ a5) (fun x hx => hx) a4 (hini c3.1) (by rw [a2, a3, e2]) b1 b2 b3 hkl hd (fun H1 locs1 hP1 _ hS1 => kk H1 locs1 hP1 hS1)
      · cases he
    · cases he
  · cases he
/-- a cell of an array of a kind -/
theorem mj_ty {t : Nat} (ht : t < 4) : ∃ t0, (mj_tys cy)[t]? = some (cy t, t0) := by
  match t, ht with
  | 0, _ => exact ⟨_, rfl⟩
  | 1, _ => exact ⟨_, rfl⟩
  | 2, _ => exact ⟨_, rfl⟩
  | 3, _ => exact ⟨_, rfl⟩
theorem mj_galen (F : mj_Fix p R s m args meth c cc D cy base own ini nL n0) (hd : decode cc pc = .ok (.arraylength, 1)) (he : mj_alen pc ls st h = some (o, S')) (k : mj_W p l e R s m args below meth c Q D cy b base L xs nL n0 z0 S') : mj_W p l e R s m args below meth c Q D cy b base L xs nL n0 z0 (pc, ls, st, h) := by
  obtain ⟨hx, hb, hml, hown, hts, hini, hK, hsz, hfr, hlo⟩ := F
  unfold mj_alen at he
  split at he
  · next a r =>
    split at he
    · next t n f ha =>
      cases hc : (Nat.blt t 4 || (Nat.beq t 9 && Nat.beq a 0)) with
      | false => rw [hc] at he; cases he
      | true =>
        rw [hc] at he
        cases he
        intro H locs LS hR hL hS
        cases a with
        | zero =>
          have e1 := Option.some.inj (ha.symm.trans hR.2.2.1)
          cases e1
          exact va_slen hx hb (hR.2.1.kept (hS.2.1 b (mj_bs hsz hR) (Nat.not_le.mpr hR.2.2.2)).symm) (mj_bs hsz hR) (Nat.not_le.mpr hR.2.2.2) hS hd (k H locs LS hR hL hS)
        | succ a' =>
          have hw := mj_ws_get (cy := cy) (b := b) (base := base) ha
          have h4 : t < 4 := by
            rcases (Bool.or_eq_true _ _).mp hc with q | q
            · exact mj_blt q
            · have q2 := Nat.eq_of_beq_eq_true ((Bool.and_eq_true _ _).mp q).2
              omega
          obtain ⟨t0, ht0⟩ := mj_ty (cy := cy) h4
          cases f with
          | inl f => exact va_alen hx hb hK.1 hR.1 a' t hw ht0 rfl hd (k H locs LS hR hL hS)
          | inr f => exact va_alen hx hb hK.1 hR.1 a' t hw ht0 rfl hd (k H locs LS hR hL hS)
    · cases he
  · cases he
end MGW
