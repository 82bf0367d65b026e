/-! Arrays.fill, of any cells; the class's beginnings -/
section RO
variable {C : mj_Cl} {own : Nat} {ini : Bool} {ret : Option FieldType} {K : mj_K} {Q : Option Value → mj_H → Prop}
theorem mj_alenR {pc a n : Nat} {ls : List (Option Value)} {r : List Value} {h : mj_H} {q : (Nat → Int32) ⊕ (Nat → Int64)} (h1 : mj_ld K pc = some .arraylength) (ha : mj_nth h a = some (.inl (0, n, q))) (k : mj_R C own ini ret K (pc + 1, ls, .int (Int32.ofNat n) :: r, h) Q) : mj_R C own ini ret K (pc, ls, .ref a :: r, h) Q :=
  mj_R.step ⟨.arraylength, h1, Or.inl ⟨none, by simp only [mj_ex, mj_alen, ha]; rfl, trivial⟩⟩ k
theorem mj_iastR {pc a n : Nat} {ls : List (Option Value)} {r : List Value} {h : mj_H} {f : Nat → Int32} {x i : Int32} (h1 : mj_ld K pc = some .iastore) (ha : mj_nth h a = some (.inl (0, n, .inl f))) (hin : vp_in i n) (k : mj_R C own ini ret K (pc + 1, ls, r, h.set a (.inl (0, n, .inl (upd f i.toNatClampNeg x)))) Q) : mj_R C own ini ret K (pc, ls, .int x :: .int i :: .ref a :: r, h) Q :=
  mj_R.step ⟨.iastore, h1, Or.inl ⟨some (vp_in i n), by simp only [mj_ex, mj_iast, ha]; rfl, hin⟩⟩ k
end RO
theorem mj_nth_set {h : mj_H} {a : Nat} {e e' : mj_E} (ha : mj_nth h a = some e) : mj_nth (h.set a e') a = some e' := by
  rw [mj_nth_eq] at ha ⊢
  rw [List.getElem?_set, if_pos rfl, if_pos (List.getElem?_eq_some_iff.mp ha).1]
theorem mj_set_self : ∀ {h : mj_H} {a : Nat} {e : mj_E}, mj_nth h a = some e → h.set a e = h
  | [], a, e, ha => by cases ha
  | x :: t, 0, e, ha => by cases ha; rfl
  | x :: t, a + 1, e, ha => by
    show x :: t.set a e = x :: t
    rw [mj_set_self (h := t) ha]
def fl (n : Nat) (x : Int32) (f : fA) : fA := fun i => if i < n then x else f i
theorem l_fill {d a n : Nat} {f : fA} {x : Int32} (hn : n < 2 ^ 31) {h : mj_H} (ha : mj_nth h a = some (.inl (0, n, .inl f))) : ∀ (j k : Nat), j + k = n → mj_R (mj_C d) 12 false none iJ7_fill_53178 (5, [some (.ref a), some (.int x), some (.int (nI k)), some (.int (Int32.ofNat n))], [], h.set a (.inl (0, n, .inl (fl k x f)))) (fun r h' => r = none ∧ h' = h.set a (.inl (0, n, .inl (fl n x f))))
  | 0, k, hk => by
    rw [Nat.zero_add] at hk
    subst hk
    refine mj_b0 40 rfl ?_
    refine mj_brt (show nI k ≤ nI k from nI_le (Nat.le_refl _) hn) ?_
    exact mj_end rfl rfl trivial ⟨rfl, rfl⟩
  | j + 1, k, hk => by
    have e1 : (nI k).toNatClampNeg = k := nI_clamp (by omega)
    have ha2 := mj_nth_set (e' := .inl (0, n, .inl (fl k x f))) ha
    refine mj_b0 40 rfl ?_
    refine mj_brf (show ¬ nI n ≤ nI k from nI_ge (by omega) hn) ?_
    refine mj_b0 3 rfl ?_
    refine mj_iastR rfl ha2 (nI_ix (by omega) hn) ?_
    rw [e1, List.set_set]
    have e2 : upd (fl k x f) k x = fl (k + 1) x f := by
      funext i
      unfold fl
      by_cases e : i = k
      · subst e; rw [pk_us, if_pos (by omega)]
      · rw [pk_un e]
        by_cases l : i < k
        · rw [if_pos l, if_pos (by omega)]
        · rw [if_neg l, if_neg (by omega)]
    rw [e2]
    refine mj_b0 2 rfl ?_
    have ih := l_fill (d := d) (x := x) hn ha j (k + 1) (by omega)
    rw [← nI_add k 1] at ih
    exact ih
theorem c_fill {d a n : Nat} {f : fA} (x : Int32) (hn : n < 2 ^ 31) {h : mj_H} (ha : mj_nth h a = some (.inl (0, n, .inl f))) : mj_C (d + 1) nJ7_fill_53178 [.ref a, .int x] h none (h.set a (.inl (0, n, .inl (fl n x f)))) := by
  refine mj_C.of rfl rfl rfl ?_
  refine mj_b0 3 rfl ?_
  refine mj_alenR rfl ha ?_
  refine mj_b0 1 rfl ?_
  have h0 := l_fill (d := d) (x := x) hn ha n 0 (by omega)
  have e0 : fl 0 x f = f := by
    funext i
    exact if_neg (Nat.not_lt_zero i)
  rw [e0, mj_set_self ha] at h0
  exact h0
section CB
variable {sc : mj_E} {F : Int32 × Int32} {S : fA × fA × fA} {G : fG} {Y : fY} {M : fM} {T : fT} {C : fC} {V : fV} {A : fA × Int32} {Z : mj_H} {d : Nat}
theorem c_place (x y : Int32) : mj_C (d + 1) nX4_place [.ref 20, .int x, .int y] (fbH sc F S G Y M T C V A Z) none (fbH sc F S G Y (x, y, nI 0, nI 0) T C V A Z) := by
  refine mj_C.of rfl rfl rfl ?_
  refine mj_b0 40 rfl ?_
  exact mj_end rfl rfl trivial ⟨rfl, rfl⟩
theorem c_cclear : mj_C (d + 2) nX1_clear [.ref 26] (fbH sc F S G Y M T C V A Z) none (fbH sc F S G Y M T (fl 400 (nI 0) C.1, C.2) V A Z) := by
  refine mj_C.of rfl rfl rfl ?_
  refine mj_b0 40 rfl ?_
  refine mj_cS rfl rfl rfl rfl (c_fill (nI 0) (by omega) (a := 27) (n := 400) (f := C.1) rfl) ?_
  exact mj_end rfl rfl trivial ⟨rfl, rfl⟩
theorem c_lclear {l1 l2 : fA} {q : Nat × Nat} (hq : q = (31, 32) ∨ q = (32, 31)) : ∃ V' : fV, mj_C (d + 2) nX3_clear [.ref 30] (fbH sc F S G Y M T C (l1, l2, q) A Z) none (fbH sc F S G Y M T C V' A Z) ∧ V'.2.2 = q ∧ ∀ i, i < 400 → (if q.1 = 31 then V'.1 else V'.2.1) i = nI 0 := by
  rcases hq with rfl | rfl
  · refine ⟨(fl 400 (nI 0) l1, l2, 31, 32), ?_, rfl, fun i hi => if_pos hi⟩
    refine mj_C.of rfl rfl rfl ?_
    refine mj_b0 40 rfl ?_
    refine mj_cS rfl rfl rfl rfl (c_fill (nI 0) (by omega) (a := 31) (n := 400) (f := l1) rfl) ?_
    exact mj_end rfl rfl trivial ⟨rfl, rfl⟩
  · refine ⟨(l1, fl 400 (nI 0) l2, 32, 31), ?_, rfl, fun i hi => if_pos hi⟩
    refine mj_C.of rfl rfl rfl ?_
    refine mj_b0 40 rfl ?_
    refine mj_cS rfl rfl rfl rfl (c_fill (nI 0) (by omega) (a := 32) (n := 400) (f := l2) rfl) ?_
    exact mj_end rfl rfl trivial ⟨rfl, rfl⟩
/-- begin(p, r) -/
theorem x_begin {b : Nat} (hb : b < 22) {l1 l2 : fA} {q : Nat × Nat} (hq : q = (31, 32) ∨ q = (32, 31)) : ∃ (G' : fG) (C1 : fA) (V' : fV), Bd b G' ∧ (∀ i, i < 400 → C1 i = nI 0) ∧ V'.2.2 = q ∧ (∀ i, i < 400 → (if q.1 = 31 then V'.1 else V'.2.1) i = nI 0) ∧ mj_C (d + 6) nX8_begin [.ref 1, .int (nI (bp b)), .int (nI (br b))] (fbH sc F S G Y M T C (l1, l2, q) A Z) none (fbH sc F S G' Y (nI 0, nI 0, nI 0, nI 0) T (C1, C.2) V' A Z) := by
  obtain ⟨G', hB, hc1⟩ := x_build (sc := sc) (F := F) (S := S) (Y := Y) (M := M) (T := T) (C := C) (V := (l1, l2, q)) (A := A) (Z := Z) (d := d) hb G
  obtain ⟨V', hc2, h1, h2⟩ := c_lclear (sc := sc) (F := F) (S := S) (G := G') (Y := Y) (M := (nI 0, nI 0, nI 0, nI 0)) (T := T) (C := (fl 400 (nI 0) C.1, C.2)) (A := A) (Z := Z) (d := d + 3) (l1 := l1) (l2 := l2) hq
  refine ⟨G', fl 400 (nI 0) C.1, V', hB, fun i hi => if_pos hi, h1, h2, ?_⟩
  refine mj_C.of rfl rfl rfl ?_
  refine mj_b0 40 rfl ?_
  refine mj_cV rfl rfl rfl rfl rfl rfl hc1 ?_
  refine mj_b0 40 rfl ?_
  refine mj_cV rfl rfl rfl rfl rfl rfl (c_place (nI 0) (nI 0)) ?_
  refine mj_b0 40 rfl ?_
  refine mj_cV rfl rfl rfl rfl rfl rfl c_cclear ?_
  refine mj_b0 40 rfl ?_
  refine mj_cV rfl rfl rfl rfl rfl rfl hc2 ?_
  exact mj_end rfl rfl trivial ⟨rfl, rfl⟩
end CB
