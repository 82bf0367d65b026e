/-! promises 20, 25 and 35, side by side -/
section LV
variable {sc : mj_E} {F : Int32 × Int32} {S : fA × fA × fA} {G : fG} {Y : fY} {M : fM} {T : fT} {C : fC} {l1 l2 : fA} {A : fA × Int32} {Z : mj_H} {d : Nat}
theorem c_live_a {b k : Nat} {x : Int32} (hb : b < 22) (h : Bd b G) (hk : k < bn b) (hx : ¬ x < 0 ∧ x ≤ nI 1) : mj_C (d + 3) nX8_live [.ref 1, .int (nI k), .int x] (fbH sc F S G Y M T C (l1, l2, 31, 32) A Z) (some (.int (l1 k))) (fbH sc F S G Y M T C (upd l1 k x, l2, 31, 32) A Z) := by
  have t0 := tb0 hb
  have e1 : (nI k).toNatClampNeg = k := nI_clamp (by omega)
  have hi : vp_in (nI k) 400 := nI_ix (show k < 400 by omega) (by omega)
  refine mj_C.of rfl rfl rfl ?_
  refine mj_b0 40 rfl ?_
  refine mj_cV rfl rfl rfl rfl rfl rfl (x_has h (nI k)) ?_
  refine mj_b0 40 rfl ?_
  refine mj_brf (fun z => vB_0.mp z (okb hb hk)) ?_
  refine mj_b0 40 rfl ?_
  refine mj_brf (hx.1) ?_
  refine mj_b0 40 rfl ?_
  refine mj_brt (hx.2) ?_
  refine mj_b1 40 rfl (⟨hi, hi⟩) ?_
  rw [e1]
  exact mj_end rfl rfl trivial ⟨rfl, rfl⟩
theorem c_live_b {b k : Nat} {x : Int32} (hb : b < 22) (h : Bd b G) (hk : k < bn b) (hx : ¬ x < 0 ∧ x ≤ nI 1) : mj_C (d + 3) nX8_live [.ref 1, .int (nI k), .int x] (fbH sc F S G Y M T C (l1, l2, 32, 31) A Z) (some (.int (l2 k))) (fbH sc F S G Y M T C (l1, upd l2 k x, 32, 31) A Z) := by
  have t0 := tb0 hb
  have e1 : (nI k).toNatClampNeg = k := nI_clamp (by omega)
  have hi : vp_in (nI k) 400 := nI_ix (show k < 400 by omega) (by omega)
  refine mj_C.of rfl rfl rfl ?_
  refine mj_b0 40 rfl ?_
  refine mj_cV rfl rfl rfl rfl rfl rfl (x_has h (nI k)) ?_
  refine mj_b0 40 rfl ?_
  refine mj_brf (fun z => vB_0.mp z (okb hb hk)) ?_
  refine mj_b0 40 rfl ?_
  refine mj_brf (hx.1) ?_
  refine mj_b0 40 rfl ?_
  refine mj_brt (hx.2) ?_
  refine mj_b1 40 rfl (⟨hi, hi⟩) ?_
  rw [e1]
  exact mj_end rfl rfl trivial ⟨rfl, rfl⟩
end LV
section LV2
variable {P : fP} {U : fU} {s : fA × fA × fA} {g : fG} {w : fW} {m : fM} {t : fR} {c : fA × fA × fA} {v : fA × fA} {a : fA × Int32} {d : Nat}
theorem m_live {v1 v2 : fA} {b k : Nat} {x : Int32} (hb : b < 22) (h : Bd b g) (hk : k < bn b) (hx : x = nI 0 ∨ x = nI 1) (hv : v1 k = nI 0 ∨ v1 k = nI 1) : mj_C (d + 3) nX9_live [.ref 35, .int (nI k), .int x] (fbP P (mdZ U s g w m t c (v1, v2) a)) (some (.int (v1 k))) (fbP P (mdZ (nI 0, U.2) s g w m t c (upd v1 k x, v2) a)) := by
  have t0 := tb0 hb
  have e1 : (nI k).toNatClampNeg = k := nI_clamp (by omega)
  have hi : vp_in (nI k) 400 := nI_ix (show k < 400 by omega) (by omega)
  refine mj_C.of rfl rfl rfl ?_
  refine mj_b0 40 rfl ?_
  refine mj_hq (h' := fbP P (mdZ (nI 0, U.2) s g w m t c (v1, v2) a)) rfl ?_
  refine mj_cV rfl rfl rfl rfl rfl rfl (xm_isCell hb h (nI k)) ?_
  refine mj_b0 40 rfl ?_
  refine mj_brf (fun z => vB_0.mp z (okb hb hk)) ?_
  refine mj_b0 40 rfl ?_
  refine mj_cS rfl rfl rfl rfl (m_in32 x 0 (nI 1) (by decide) (by decide)) ?_
  refine mj_b0 40 rfl ?_
  refine mj_brt (fun z => vB_0.mp z (by rcases hx with rfl | rfl <;> decide)) ?_
  refine mj_b1 40 rfl (hi) ?_
  rw [e1]
  have fin : ∀ y, y = v1 k → mj_R (mj_C (d + 2)) 9 false (some .int) iX9_live (41, [some (.ref 35), some (.int (nI k)), some (.int x), some (.int y)], [], fbP P (mdZ (nI 0, U.2) s g w m t c (v1, v2) a)) (fun r2 h2 => r2 = some (.int (v1 k)) ∧ h2 = fbP P (mdZ (nI 0, U.2) s g w m t c (upd v1 k x, v2) a)) := by
    intro y hy
    refine mj_b0 40 rfl ?_
    rcases hx with rfl | rfl
    · refine mj_brt (show ¬ nI 0 = nI 1 by decide) ?_
      refine mj_b1 40 rfl (hi) ?_
      refine mj_end rfl rfl trivial ⟨by rw [hy], ?_⟩
      exact Eq.trans (b := fbP P (mdZ (nI 0, U.2) s g w m t c (upd v1 (nI k).toNatClampNeg (nI 0), v2) a)) rfl (by rw [e1])
    · refine mj_brf (show ¬ ¬ nI 1 = nI 1 by decide) ?_
      refine mj_b1 40 rfl (hi) ?_
      refine mj_end rfl rfl trivial ⟨by rw [hy], ?_⟩
      exact Eq.trans (b := fbP P (mdZ (nI 0, U.2) s g w m t c (upd v1 (nI k).toNatClampNeg (nI 1), v2) a)) rfl (by rw [e1])
  by_cases q : v1 k = nI 0
  · refine mj_brt (q) ?_
    refine mj_b0 2 rfl ?_
    exact fin (nI 0) q.symm
  · refine mj_brf (q) ?_
    refine mj_b0 3 rfl ?_
    exact fin (nI 1) (hv.resolve_left q).symm
end LV2
section LV3
variable {d : Nat}
/-- promise 25 -/
theorem s_live (x y : Int32) : Sim (d + 3) nX8_live nX9_live [.int x, .int y] := by
  intro P z hr
  obtain ⟨U, s, g, w, m, t, c, v, a⟩ := z
  obtain ⟨sc, F, S, G, Y, M, T, C, V, A⟩ := P
  obtain ⟨b, hb, h1, h2, h3, h4, h5, h6, h7, h8, h9, ⟨hq, hl⟩, h11⟩ := id hr
  have t0 := tb0 hb
  have h : Bd b G := h1
  have h' : Bd b g := h2
  have hl' : LvR b (lvs V) v.1 := hl
  by_cases q : (¬ x < 0 ∧ ¬ nI (bn b) ≤ x) ∧ (¬ y < 0 ∧ y ≤ nI 1)
  · rcases ixb hb x with z | ⟨k, hk, rfl⟩
    · exact absurd q.1 z
    have hy : y = nI 0 ∨ y = nI 1 := by
      rcases ixn y (n := 2) (by omega) with ⟨-, z | z⟩ | ⟨j, hj, rfl⟩
      · exact absurd z q.2.1
      · have z2 := q.2.2
        rw [Int32.le_iff_toInt_le, nI_toInt (by omega)] at z z2
        omega
      · rcases (show j = 0 ∨ j = 1 by omega) with rfl | rfl
        · exact Or.inl rfl
        · exact Or.inr rfl
    obtain ⟨v1, v2⟩ := v
    obtain ⟨l1, l2, r⟩ := V
    have hm := fun P => m_live (d := d) (P := P) (U := U) (s := s) (w := w) (m := m) (t := t) (c := c) (a := a) (v1 := v1) (v2 := v2) hb h' hk hy (hl' k hk).2
    rcases hq with z | z
    · have z' : r = (31, 32) := z
      subst z'
      have hk2 : l1 k = v1 k := (hl' k hk).1
      have hc := c_live_a (d := d) (sc := sc) (F := F) (S := S) (Y := Y) (M := M) (T := T) (C := C) (l1 := l1) (l2 := l2) (A := A) (Z := mdz (U, s, g, w, m, t, c, (v1, v2), a)) hb h hk q.2
      rw [hk2] at hc
      exact ⟨_, (sc, F, S, G, Y, M, T, C, (upd l1 k y, l2, 31, 32), A), ((nI 0, U.2), s, g, w, m, t, c, (upd v1 k y, v2), a), hc, hm _, ⟨b, hb, h1, h2, h3, h4, h5, h6, h7, h8, h9, ⟨Or.inl rfl, hl'.upd hy⟩, h11⟩⟩
    · have z' : r = (32, 31) := z
      subst z'
      have hk2 : l2 k = v1 k := (hl' k hk).1
      have hc := c_live_b (d := d) (sc := sc) (F := F) (S := S) (Y := Y) (M := M) (T := T) (C := C) (l1 := l1) (l2 := l2) (A := A) (Z := mdz (U, s, g, w, m, t, c, (v1, v2), a)) hb h hk q.2
      rw [hk2] at hc
      exact ⟨_, (sc, F, S, G, Y, M, T, C, (l1, upd l2 k y, 32, 31), A), ((nI 0, U.2), s, g, w, m, t, c, (upd v1 k y, v2), a), hc, hm _, ⟨b, hb, h1, h2, h3, h4, h5, h6, h7, h8, h9, ⟨Or.inr rfl, hl'.upd hy⟩, h11⟩⟩
  · refine ⟨BD, (sc, F, S, G, Y, M, T, C, V, A), ((nI 0, U.2), s, g, w, m, t, c, v, a), ?_, ?_, hr.thrown⟩
    · refine mj_C.of rfl rfl rfl ?_
      refine mj_b0 40 rfl ?_
      refine mj_cV rfl rfl rfl rfl rfl rfl (x_has h x) ?_
      refine mj_b0 40 rfl ?_
      by_cases q1 : (¬ x < 0 ∧ ¬ nI (bn b) ≤ x)
      · refine mj_brf (fun z => vB_0.mp z q1) ?_
        refine mj_b0 40 rfl ?_
        refine mj_br (fun k1 => ?_) (fun k1 => ?_)
        · refine mj_b0 40 rfl ?_
          exact mj_end rfl rfl trivial ⟨rfl, rfl⟩
        · refine mj_b0 40 rfl ?_
          refine mj_br (fun k2 => ?_) (fun k2 => ?_)
          · exact absurd ⟨q1, k1, k2⟩ q
          · refine mj_b0 40 rfl ?_
            exact mj_end rfl rfl trivial ⟨rfl, rfl⟩
      · refine mj_brt (vB_0.mpr q1) ?_
        refine mj_b0 40 rfl ?_
        exact mj_end rfl rfl trivial ⟨rfl, rfl⟩
    · refine mj_C.of rfl rfl rfl ?_
      refine mj_b0 40 rfl ?_
      refine mj_hq (h' := fbP (sc, F, S, G, Y, M, T, C, V, A) (mdZ (nI 0, U.2) s g w m t c v a)) rfl ?_
      refine mj_cV rfl rfl rfl rfl rfl rfl (xm_isCell hb h' x) ?_
      refine mj_b0 40 rfl ?_
      by_cases q1 : (¬ x < 0 ∧ ¬ nI (bn b) ≤ x)
      · refine mj_brf (fun z => vB_0.mp z q1) ?_
        refine mj_b0 40 rfl ?_
        refine mj_cS rfl rfl rfl rfl (m_in32 y 0 (nI 1) (by decide) (by decide)) ?_
        refine mj_b0 40 rfl ?_
        refine mj_brf (fun z => z (vB_0.mpr (fun z2 => q ⟨q1, z2.1, by
          have z3 := z2.2
          rw [Int32.lt_iff_toInt_lt] at z3
          rw [Int32.le_iff_toInt_le]
          omega⟩))) ?_
        refine mj_b0 40 rfl ?_
        exact mj_end rfl rfl trivial ⟨rfl, rfl⟩
      · refine mj_brt (vB_0.mpr q1) ?_
        refine mj_b0 40 rfl ?_
        exact mj_end rfl rfl trivial ⟨rfl, rfl⟩
end LV3
section PA
variable {sc : mj_E} {F : Int32 × Int32} {S : fA × fA × fA} {G : fG} {Y : fY} {M : fM} {T : fT} {C : fC} {V : fV} {A : fA × Int32} {Z : mj_H} {d : Nat}
theorem c_isColour {hh : mj_H} (x : Int32) : mj_C (d + 1) nX1_isColour [.int x] hh (some (.int (vB (¬ x < 0 ∧ ¬ nI 4 ≤ x)))) hh := by
  refine mj_C.of rfl rfl rfl ?_
  refine mj_b0 40 rfl ?_
  refine mj_br (fun h1 => ?_) (fun h1 => ?_)
  · refine mj_b0 40 rfl ?_
    exact mj_end rfl rfl (Or.inl rfl) ⟨by rw [vB_f (fun q => q.1 h1)]; rfl, rfl⟩
  · refine mj_b0 40 rfl ?_
    refine mj_br (fun h2 => ?_) (fun h2 => ?_)
    · refine mj_b0 40 rfl ?_
      exact mj_end rfl rfl (Or.inl rfl) ⟨by rw [vB_f (fun q => q.2 h2)]; rfl, rfl⟩
    · refine mj_b0 40 rfl ?_
      exact mj_end rfl rfl (Or.inr rfl) ⟨by rw [vB_t ⟨h1, h2⟩]; rfl, rfl⟩
theorem c_paint {C1 : fA} {C2 : fA × fA} {b k : Nat} {x : Int32} (hb : b < 22) (h : Bd b G) (hk : k < bn b) (hx : (¬ x < 0 ∧ ¬ nI 4 ≤ x) ∨ x = NO) : mj_C (d + 3) nX8_paint [.ref 1, .int (nI k), .int x] (fbH sc F S G Y M T (C1, C2) V A Z) (some (.int (C1 k))) (fbH sc F S G Y M T (upd C1 k x, C2) V A Z) := by
  have t0 := tb0 hb
  have e1 : (nI k).toNatClampNeg = k := nI_clamp (by omega)
  have hi : vp_in (nI k) 400 := nI_ix (show k < 400 by omega) (by omega)
  have fin : mj_R (mj_C (d + 2)) 8 false (some .int) iX8_paint (27, [some (.ref 1), some (.int (nI k)), some (.int x), none], [], fbH sc F S G Y M T (C1, C2) V A Z) (fun r2 h2 => r2 = some (.int (C1 k)) ∧ h2 = fbH sc F S G Y M T (upd C1 k x, C2) V A Z) := by
    refine mj_b1 40 rfl (⟨hi, hi⟩) ?_
    rw [e1]
    exact mj_end rfl rfl trivial ⟨rfl, rfl⟩
  refine mj_C.of rfl rfl rfl ?_
  refine mj_b0 40 rfl ?_
  refine mj_cV rfl rfl rfl rfl rfl rfl (x_has h (nI k)) ?_
  refine mj_b0 40 rfl ?_
  refine mj_brf (fun z => vB_0.mp z (okb hb hk)) ?_
  refine mj_b0 40 rfl ?_
  refine mj_cS rfl rfl rfl rfl (c_isColour x) ?_
  refine mj_b0 40 rfl ?_
  by_cases q : ¬ x < 0 ∧ ¬ nI 4 ≤ x
  · refine mj_brt (fun z => vB_0.mp z q) ?_
    exact fin
  · refine mj_brf (fun z => z (vB_0.mpr q)) ?_
    refine mj_b0 40 rfl ?_
    refine mj_brt (hx.resolve_left q) ?_
    exact fin
end PA
section PAm
variable {P : fP} {U : fU} {s : fA × fA × fA} {g : fG} {w : fW} {m : fM} {t : fR} {c : fA × fA × fA} {v : fA × fA} {a : fA × Int32} {d : Nat}
theorem m_paint {c1 : fA} {c2 : fA × fA} {b k : Nat} {x : Int32} (hb : b < 22) (h : Bd b g) (hk : k < bn b) (hx : (¬ x < 0 ∧ ¬ nI 3 < x) ∨ x = NO) : mj_C (d + 3) nX9_paint [.ref 35, .int (nI k), .int x] (fbP P (mdZ U s g w m t (c1, c2) v a)) (some (.int (c1 k))) (fbP P (mdZ (nI 0, U.2) s g w m t (upd c1 k x, c2) v a)) := by
  have t0 := tb0 hb
  have e1 : (nI k).toNatClampNeg = k := nI_clamp (by omega)
  have hi : vp_in (nI k) 400 := nI_ix (show k < 400 by omega) (by omega)
  have fin : mj_R (mj_C (d + 2)) 9 false (some .int) iX9_paint (34, [some (.ref 35), some (.int (nI k)), some (.int x), none], [], fbP P (mdZ (nI 0, U.2) s g w m t (c1, c2) v a)) (fun r2 h2 => r2 = some (.int (c1 k)) ∧ h2 = fbP P (mdZ (nI 0, U.2) s g w m t (upd c1 k x, c2) v a)) := by
    refine mj_b1 40 rfl (⟨hi, hi⟩) ?_
    rw [e1]
    exact mj_end rfl rfl trivial ⟨rfl, rfl⟩
  refine mj_C.of rfl rfl rfl ?_
  refine mj_b0 40 rfl ?_
  refine mj_hq (h' := fbP P (mdZ (nI 0, U.2) s g w m t (c1, c2) v a)) rfl ?_
  refine mj_cV rfl rfl rfl rfl rfl rfl (xm_isCell hb h (nI k)) ?_
  refine mj_b0 40 rfl ?_
  refine mj_brf (fun z => vB_0.mp z (okb hb hk)) ?_
  refine mj_b0 40 rfl ?_
  by_cases q : x = NO
  · refine mj_brt (q) ?_
    exact fin
  · refine mj_brf (q) ?_
    refine mj_b0 40 rfl ?_
    refine mj_cS rfl rfl rfl rfl (m_in32 x 0 (nI 3) (by decide) (by decide)) ?_
    refine mj_b0 40 rfl ?_
    refine mj_brt (fun z => vB_0.mp z (hx.resolve_right q)) ?_
    exact fin
end PAm
section PAS
variable {d : Nat}
def ClR (b : Nat) (C c : fA) : Prop := ∀ k, k < bn b → C k = c k ∧ (c k = NO ∨ ∃ q, q < 4 ∧ c k = nI q)
theorem ClR.upd {b k : Nat} {C c : fA} {x : Int32} (h : ClR b C c) (hx : x = NO ∨ ∃ q, q < 4 ∧ x = nI q) : ClR b (upd C k x) (upd c k x) := by
  intro j hj
  by_cases e : j = k
  · rw [e, pk_us, pk_us]
    exact ⟨rfl, hx⟩
  · rw [pk_un e, pk_un e]
    exact h j hj
/-- promise 20 -/
theorem s_paint (x y : Int32) : Sim (d + 3) nX8_paint nX9_paint [.int x, .int y] := by
  intro P z hr
  obtain ⟨U, s, g, w, m, t, ⟨c1, c2⟩, v, a⟩ := z
  obtain ⟨sc, F, S, G, Y, M, T, ⟨C1, C2⟩, V, A⟩ := P
  obtain ⟨b, hb, h1, h2, h3, h4, h5, h6, h7, h8, h9, h10⟩ := id hr
  have t0 := tb0 hb
  have h : Bd b G := h1
  have h' : Bd b g := h2
  have h9' : ClR b C1 c1 := h9
  have e34 : (¬ y < 0 ∧ ¬ nI 3 < y) ↔ (¬ y < 0 ∧ ¬ nI 4 ≤ y) := nin (by omega)
  by_cases q : (¬ x < 0 ∧ ¬ nI (bn b) ≤ x) ∧ ((¬ y < 0 ∧ ¬ nI 4 ≤ y) ∨ y = NO)
  · rcases ixb hb x with z | ⟨k, hk, rfl⟩
    · exact absurd q.1 z
    have hy : y = NO ∨ ∃ q, q < 4 ∧ y = nI q := by
      rcases q.2 with z | z
      · rcases pk_ix y (n := 4) (by omega) with z2 | z2 | z2
        · exact absurd z2 z.1
        · exact absurd z2 z.2
        · exact Or.inr z2
      · exact Or.inl z
    have hc := c_paint (d := d) (sc := sc) (F := F) (S := S) (Y := Y) (M := M) (T := T) (C1 := C1) (C2 := C2) (V := V) (A := A) (Z := mdz (U, s, g, w, m, t, (c1, c2), v, a)) hb h hk q.2
    rw [(h9' k hk).1] at hc
    exact ⟨_, (sc, F, S, G, Y, M, T, (upd C1 k y, C2), V, A), ((nI 0, U.2), s, g, w, m, t, (upd c1 k y, c2), v, a), hc, m_paint hb h' hk (q.2.imp_left e34.mpr), ⟨b, hb, h1, h2, h3, h4, h5, h6, h7, h8, h9'.upd hy, h10⟩⟩
  · refine ⟨BD, (sc, F, S, G, Y, M, T, (C1, C2), V, A), ((nI 0, U.2), s, g, w, m, t, (c1, c2), v, a), ?_, ?_, hr.thrown⟩
    · refine mj_C.of rfl rfl rfl ?_
      refine mj_b0 40 rfl ?_
      refine mj_cV rfl rfl rfl rfl rfl rfl (x_has h x) ?_
      refine mj_b0 40 rfl ?_
      by_cases q1 : (¬ x < 0 ∧ ¬ nI (bn b) ≤ x)
      · refine mj_brf (fun z => vB_0.mp z q1) ?_
        refine mj_b0 40 rfl ?_
        refine mj_cS rfl rfl rfl rfl (c_isColour y) ?_
        refine mj_b0 40 rfl ?_
        refine mj_brf (fun z => z (vB_0.mpr (fun z2 => q ⟨q1, Or.inl z2⟩))) ?_
        refine mj_b0 40 rfl ?_
        refine mj_brf (fun z => q ⟨q1, Or.inr z⟩) ?_
        refine mj_b0 40 rfl ?_
        exact mj_end rfl rfl trivial ⟨rfl, rfl⟩
      · refine mj_brt (vB_0.mpr q1) ?_
        refine mj_b0 40 rfl ?_
        exact mj_end rfl rfl trivial ⟨rfl, rfl⟩
    · refine mj_C.of rfl rfl rfl ?_
      refine mj_b0 40 rfl ?_
      refine mj_hq (h' := fbP (sc, F, S, G, Y, M, T, (C1, C2), V, A) (mdZ (nI 0, U.2) s g w m t (c1, c2) v a)) rfl ?_
      refine mj_cV rfl rfl rfl rfl rfl rfl (xm_isCell hb h' x) ?_
      refine mj_b0 40 rfl ?_
      by_cases q1 : (¬ x < 0 ∧ ¬ nI (bn b) ≤ x)
      · refine mj_brf (fun z => vB_0.mp z q1) ?_
        refine mj_b0 40 rfl ?_
        refine mj_brf (fun z => q ⟨q1, Or.inr z⟩) ?_
        refine mj_b0 40 rfl ?_
        refine mj_cS rfl rfl rfl rfl (m_in32 y 0 (nI 3) (by decide) (by decide)) ?_
        refine mj_b0 40 rfl ?_
        refine mj_brf (fun z => z (vB_0.mpr (fun z2 => q ⟨q1, Or.inl (e34.mp z2)⟩))) ?_
        refine mj_b0 40 rfl ?_
        exact mj_end rfl rfl trivial ⟨rfl, rfl⟩
      · refine mj_brt (vB_0.mpr q1) ?_
        refine mj_b0 40 rfl ?_
        exact mj_end rfl rfl trivial ⟨rfl, rfl⟩
end PAS
