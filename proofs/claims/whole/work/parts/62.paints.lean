/-! promise 21, side by side -/
theorem i4 {x : Int32} : (¬ x < 0 ∧ ¬ nI 3 < x) ↔ (¬ x < 0 ∧ ¬ nI 4 ≤ x) := nin (by omega)
theorem col4 {x : Int32} (h : ¬ x < 0 ∧ ¬ nI 4 ≤ x) : ∃ q, q < 4 ∧ x = nI q := by
  rcases pk_ix x (n := 4) (by omega) with z | z | z
  · exact absurd z h.1
  · exact absurd z h.2
  · exact z
/-- from a place on by a row -/
def pg (f g : fA) (a i k : Nat) : fA := fun q => if a ≤ q ∧ q < a + k then f (i + (q - a)) else g q
theorem pg_0 (f g : fA) (a i : Nat) : pg f g a i 0 = g := by
  funext q
  exact if_neg (by omega)
theorem pg_s (f g : fA) (a i k : Nat) : upd (pg f g a i k) (a + k) (f (i + k)) = pg f g a i (k + 1) := by
  funext q
  show (if q = a + k then f (i + k) else if a ≤ q ∧ q < a + k then f (i + (q - a)) else g q) = (if a ≤ q ∧ q < a + (k + 1) then f (i + (q - a)) else g q)
  by_cases e : q = a + k
  · rw [if_pos e, if_pos (by omega), e, show a + k - a = k by omega]
  · rw [if_neg e]
    by_cases l : a ≤ q ∧ q < a + k
    · rw [if_pos l, if_pos (by omega)]
    · rw [if_neg l, if_neg (by omega)]
section PS
variable {sc : mj_E} {F : Int32 × Int32} {S : fA × fA × fA} {G : fG} {Y : fY} {M : fM} {T : fT} {C : fC} {V : fV} {A : fA × Int32} {Z : mj_H} {d : Nat}
/-- as far as the sheet's own tests -/
theorem c_paints_null {b j k n : Nat} {i : Int32} (hb : b < 22) (h : Bd b G) (hj : j < bn b) (hk : k < 8) (h1 : 1 ≤ n) (h2 : n ≤ bn b - j) (hm : S.2.1 k = -(nI 1)) : mj_C (d + 3) nX8_paints [.ref 1, .int (nI j), .int (nI k), .int i, .int (nI n)] (fbH sc F S G Y M T C V A Z) (some (.int (-1000010 - nI 1))) (fbH sc (nI 1, F.2) S G Y M T C V A Z) := by
  have t0 := tb0 hb
  refine mj_C.of rfl rfl rfl ?_
  refine mj_b0 40 rfl ?_
  refine mj_cV rfl rfl rfl rfl rfl rfl (x_has h (nI j)) ?_
  refine mj_b0 40 rfl ?_
  refine mj_brf (fun z => vB_0.mp z (okb hb hj)) ?_
  refine mj_b0 40 rfl ?_
  refine mj_brf (show ¬ nI n < nI 1 from nI_nlt (by omega) (by omega)) ?_
  refine mj_b0 40 rfl ?_
  refine mj_brf (by rw [bd_cl h, pk_sub (by omega)]; exact nI_nlt (by omega) (by omega)) ?_
  refine mj_b0 40 rfl ?_
  refine mj_cV rfl rfl rfl rfl rfl rfl (c_shas (nI k)) ?_
  refine mj_b0 40 rfl ?_
  refine mj_brt (fun z => vB_0.mp z (ok8 hk)) ?_
  refine mj_b0 40 rfl ?_
  refine mj_cV rfl rfl rfl rfl rfl rfl (c_isMissing hk) ?_
  refine mj_b0 40 rfl ?_
  refine mj_brf (fun z => vB_0.mp z hm) ?_
  refine mj_b0 40 rfl ?_
  refine mj_cV rfl rfl rfl rfl rfl rfl (c_finding (nI 1)) ?_
  exact mj_end rfl rfl trivial ⟨rfl, rfl⟩
theorem c_paints_place {b j k n : Nat} {i : Int32} (hb : b < 22) (h : Bd b G) (hj : j < bn b) (hk : k < 8) (h1 : 1 ≤ n) (h2 : n ≤ bn b - j) (hm : S.2.1 k ≠ -(nI 1)) (hh : ¬ (¬ i < 0 ∧ ¬ nI n < 0 ∧ ¬ S.2.2 k < i ∧ ¬ S.2.2 k - i < nI n)) : mj_C (d + 3) nX8_paints [.ref 1, .int (nI j), .int (nI k), .int i, .int (nI n)] (fbH sc F S G Y M T C V A Z) (some (.int (-1000010 - nI 2))) (fbH sc (nI 2, F.2) S G Y M T C V A Z) := by
  have t0 := tb0 hb
  refine mj_C.of rfl rfl rfl ?_
  refine mj_b0 40 rfl ?_
  refine mj_cV rfl rfl rfl rfl rfl rfl (x_has h (nI j)) ?_
  refine mj_b0 40 rfl ?_
  refine mj_brf (fun z => vB_0.mp z (okb hb hj)) ?_
  refine mj_b0 40 rfl ?_
  refine mj_brf (show ¬ nI n < nI 1 from nI_nlt (by omega) (by omega)) ?_
  refine mj_b0 40 rfl ?_
  refine mj_brf (by rw [bd_cl h, pk_sub (by omega)]; exact nI_nlt (by omega) (by omega)) ?_
  refine mj_b0 40 rfl ?_
  refine mj_cV rfl rfl rfl rfl rfl rfl (c_shas (nI k)) ?_
  refine mj_b0 40 rfl ?_
  refine mj_brt (fun z => vB_0.mp z (ok8 hk)) ?_
  refine mj_b0 40 rfl ?_
  refine mj_cV rfl rfl rfl rfl rfl rfl (c_isMissing hk) ?_
  refine mj_b0 40 rfl ?_
  refine mj_brt (vB_0.mpr hm) ?_
  refine mj_b0 40 rfl ?_
  refine mj_cV rfl rfl rfl rfl rfl rfl (c_holds hk i (nI n)) ?_
  refine mj_b0 40 rfl ?_
  refine mj_brf (fun z => z (vB_0.mpr hh)) ?_
  refine mj_b0 40 rfl ?_
  refine mj_cV rfl rfl rfl rfl rfl rfl (c_finding (nI 2)) ?_
  exact mj_end rfl rfl trivial ⟨rfl, rfl⟩
theorem c_paints_bad {x y i n : Int32} {b : Nat} (hb : b < 22) (h : Bd b G) (hx : ¬ ((¬ x < 0 ∧ ¬ nI (bn b) ≤ x) ∧ (¬ n < nI 1 ∧ ¬ nI (bn b) - x < n) ∧ (¬ y < 0 ∧ ¬ nI 8 ≤ y))) : mj_C (d + 3) nX8_paints [.ref 1, .int x, .int y, .int i, .int n] (fbH sc F S G Y M T C V A Z) (some (.int BD)) (fbH sc F S G Y M T C V A Z) := by
  refine mj_C.of rfl rfl rfl ?_
  refine mj_b0 40 rfl ?_
  refine mj_cV rfl rfl rfl rfl rfl rfl (x_has h x) ?_
  refine mj_b0 40 rfl ?_
  by_cases q1 : (¬ x < 0 ∧ ¬ nI (bn b) ≤ x)
  · refine mj_brf (fun z => vB_0.mp z q1) ?_
    refine mj_b0 40 rfl ?_
    refine mj_br (fun q2 => ?_) (fun q2 => ?_)
    · refine mj_b0 40 rfl ?_
      exact mj_end rfl rfl trivial ⟨rfl, rfl⟩
    · refine mj_b0 40 rfl ?_
      rw [bd_cl h]
      refine mj_br (fun q3 => ?_) (fun q3 => ?_)
      · refine mj_b0 40 rfl ?_
        exact mj_end rfl rfl trivial ⟨rfl, rfl⟩
      · refine mj_b0 40 rfl ?_
        refine mj_cV rfl rfl rfl rfl rfl rfl (c_shas y) ?_
        refine mj_b0 40 rfl ?_
        refine mj_brf (fun z => z (vB_0.mpr (fun z2 => hx ⟨q1, ⟨q2, q3⟩, z2⟩))) ?_
        refine mj_b0 40 rfl ?_
        exact mj_end rfl rfl trivial ⟨rfl, rfl⟩
  · refine mj_brt (vB_0.mpr q1) ?_
    refine mj_b0 40 rfl ?_
    exact mj_end rfl rfl trivial ⟨rfl, rfl⟩
theorem c_paints {it ln sz C1 : fA} {C2 : fA × fA} {b j k n i : Nat} (hb : b < 22) (h : Bd b G) (hj : j < bn b) (hk : k < 8) (h1 : 1 ≤ n) (h2 : n ≤ bn b - j) (hm : ln k ≠ -(nI 1)) (hi : i + n ≤ 60) (hh : ¬ nI i < 0 ∧ ¬ nI n < 0 ∧ ¬ sz k < nI i ∧ ¬ sz k - nI i < nI n) : ∃ r F' C', mj_C (d + 3) nX8_paints [.ref 1, .int (nI j), .int (nI k), .int (nI i), .int (nI n)] (fbH sc F (it, ln, sz) G Y M T (C1, C2) V A Z) (some (.int r)) (fbH sc F' (it, ln, sz) G Y M T (C', C2) V A Z) ∧ (((∀ q, q < n → ¬ it (k * 60 + (i + q)) < 0 ∧ ¬ nI 4 ≤ it (k * 60 + (i + q))) ∧ r = nI n ∧ F' = (nI 0, F.2) ∧ C' = pg it C1 j (k * 60 + i) n) ∨ (¬ (∀ q, q < n → ¬ it (k * 60 + (i + q)) < 0 ∧ ¬ nI 4 ≤ it (k * 60 + (i + q))) ∧ r = BD ∧ F' = F ∧ C' = C1)) := by
  have t0 := tb0 hb
  have kk : ∃ r h', mj_C (d + 3) nX8_paints [.ref 1, .int (nI j), .int (nI k), .int (nI i), .int (nI n)] (fbH sc F (it, ln, sz) G Y M T (C1, C2) V A Z) r h' ∧ (((∀ q, q < n → ¬ it (k * 60 + (i + q)) < 0 ∧ ¬ nI 4 ≤ it (k * 60 + (i + q))) ∧ r = some (.int (nI n)) ∧ h' = fbH sc (nI 0, F.2) (it, ln, sz) G Y M T (pg it C1 j (k * 60 + i) n, C2) V A Z) ∨ (¬ (∀ q, q < n → ¬ it (k * 60 + (i + q)) < 0 ∧ ¬ nI 4 ≤ it (k * 60 + (i + q))) ∧ r = some (.int BD) ∧ h' = fbH sc F (it, ln, sz) G Y M T (C1, C2) V A Z)) := by
    refine mj_C.ex rfl rfl rfl ?_
    refine mj_b0 40 rfl ?_
    refine mj_cV rfl rfl rfl rfl rfl rfl (x_has h (nI j)) ?_
    refine mj_b0 40 rfl ?_
    refine mj_brf (fun z => vB_0.mp z (okb hb hj)) ?_
    refine mj_b0 40 rfl ?_
    refine mj_brf (show ¬ nI n < nI 1 from nI_nlt (by omega) (by omega)) ?_
    refine mj_b0 40 rfl ?_
    refine mj_brf (by rw [bd_cl h, pk_sub (by omega)]; exact nI_nlt (by omega) (by omega)) ?_
    refine mj_b0 40 rfl ?_
    refine mj_cV rfl rfl rfl rfl rfl rfl (c_shas (nI k)) ?_
    refine mj_b0 40 rfl ?_
    refine mj_brt (fun z => vB_0.mp z (ok8 hk)) ?_
    refine mj_b0 40 rfl ?_
    refine mj_cV rfl rfl rfl rfl rfl rfl (c_isMissing hk) ?_
    refine mj_b0 40 rfl ?_
    refine mj_brt (vB_0.mpr hm) ?_
    refine mj_b0 40 rfl ?_
    refine mj_cV rfl rfl rfl rfl rfl rfl (c_holds hk (nI i) (nI n)) ?_
    refine mj_b0 40 rfl ?_
    refine mj_brt (fun z => vB_0.mp z hh) ?_
    refine mj_b0 2 rfl ?_
    refine mj_itI (fun q (_ : Unit) => ∀ p, p < q → ¬ it (k * 60 + (i + p)) < 0 ∧ ¬ nI 4 ≤ it (k * 60 + (i + p))) (fun q _ => (85, [some (.ref 1), some (.int (nI j)), some (.int (nI k)), some (.int (nI i)), some (.int (nI n)), some (.int (nI q))], [], fbH sc F (it, ln, sz) G Y M T (C1, C2) V A Z)) n (fun q _ hq hI ih => ?_) (fun _ hI => ?_) () (fun p hp => absurd hp (by omega))
    · refine mj_b0 40 rfl ?_
      refine mj_brf (nI_ge hq (by omega)) ?_
      refine mj_b0 40 rfl ?_
      rw [nI_add]
      refine mj_cV rfl rfl rfl rfl rfl rfl (c_read hk (show i + q < 60 by omega)) ?_
      refine mj_cS rfl rfl rfl rfl (c_isColour (it (k * 60 + (i + q)))) ?_
      refine mj_b0 40 rfl ?_
      by_cases z : ¬ it (k * 60 + (i + q)) < 0 ∧ ¬ nI 4 ≤ it (k * 60 + (i + q))
      · refine mj_brt (fun z2 => vB_0.mp z2 z) ?_
        refine mj_b0 2 rfl ?_
        have ih := ih () (fun p hp => by
          by_cases e : p = q
          · rw [e]; exact z
          · exact hI p (by omega))
        rw [← nI_add q 1] at ih
        exact ih
      · refine mj_brf (fun z2 => z2 (vB_0.mpr z)) ?_
        refine mj_b0 40 rfl ?_
        exact mj_end rfl rfl trivial (Or.inr ⟨fun z2 => z (z2 q hq), rfl, rfl⟩)
    · refine mj_b0 40 rfl ?_
      refine mj_brt (nI_le (by omega) (by omega)) ?_
      refine mj_b0 2 rfl ?_
      refine mj_hq (h' := fbH sc F (it, ln, sz) G Y M T (pg it C1 j (k * 60 + i) 0, C2) V A Z) (by rw [pg_0]) ?_
      refine mj_iter (fun q => (122, [some (.ref 1), some (.int (nI j)), some (.int (nI k)), some (.int (nI i)), some (.int (nI n)), some (.int (nI q))], [], fbH sc F (it, ln, sz) G Y M T (pg it C1 j (k * 60 + i) q, C2) V A Z)) n (fun q hq ih => ?_) ?_
      · have e1 : (nI (j + q)).toNatClampNeg = j + q := nI_clamp (by omega)
        rw [← nI_add q 1] at ih
        refine mj_b0 40 rfl ?_
        refine mj_brf (nI_ge hq (by omega)) ?_
        refine mj_b0 40 rfl ?_
        rw [nI_add, nI_add]
        refine mj_cV rfl rfl rfl rfl rfl rfl (c_read hk (show i + q < 60 by omega)) ?_
        refine mj_b1 1 rfl (nI_ix (show j + q < 400 by omega) (by omega)) ?_
        refine mj_hq (h' := fbH sc F (it, ln, sz) G Y M T (pg it C1 j (k * 60 + i) (q + 1), C2) V A Z) (Eq.trans (b := fbH sc F (it, ln, sz) G Y M T (upd (pg it C1 j (k * 60 + i) q) (nI (j + q)).toNatClampNeg (it (k * 60 + (i + q))), C2) V A Z) rfl (by rw [e1, ← Nat.add_assoc, pg_s])) ?_
        refine mj_b0 2 rfl ?_
        exact ih
      · refine mj_b0 40 rfl ?_
        refine mj_brt (nI_le (by omega) (by omega)) ?_
        refine mj_b0 40 rfl ?_
        refine mj_cV rfl rfl rfl rfl rfl rfl (c_sound _) ?_
        exact mj_end rfl rfl trivial (Or.inl ⟨hI, rfl, rfl⟩)
  obtain ⟨r, h', k1, ⟨k2, rfl, rfl⟩ | ⟨k2, rfl, rfl⟩⟩ := kk
  · exact ⟨_, _, _, k1, Or.inl ⟨k2, rfl, rfl, rfl⟩⟩
  · exact ⟨_, _, _, k1, Or.inr ⟨k2, rfl, rfl, rfl⟩⟩
end PS
section PSm
variable {P : fP} {U : fU} {s : fA × fA × fA} {g : fG} {w : fW} {m : fM} {t : fR} {c : fA × fA × fA} {v : fA × fA} {a : fA × Int32} {d : Nat}
theorem m_paints_bad {x y i n : Int32} {b : Nat} (hb : b < 22) (h : Bd b g) (hx : ¬ ((¬ x < 0 ∧ ¬ nI (bn b) ≤ x) ∧ (¬ n < nI 1 ∧ ¬ nI (bn b) - x < n) ∧ (¬ y < 0 ∧ ¬ 7 < y))) : mj_C (d + 3) nX9_paints [.ref 35, .int x, .int y, .int i, .int n] (fbP P (mdZ U s g w m t c v a)) (some (.int BD)) (fbP P (mdZ (nI 0, U.2) s g w m t c v a)) := by
  refine mj_C.of rfl rfl rfl ?_
  refine mj_b0 40 rfl ?_
  refine mj_hq (h' := (fbP P (mdZ (nI 0, U.2) s g w m t c v a))) rfl ?_
  refine mj_cV rfl rfl rfl rfl rfl rfl (xm_isCell hb h x) ?_
  refine mj_b0 40 rfl ?_
  by_cases q1 : (¬ x < 0 ∧ ¬ nI (bn b) ≤ x)
  · refine mj_brf (fun z => vB_0.mp z q1) ?_
    refine mj_b0 40 rfl ?_
    rw [bd_cl h]
    refine mj_cS rfl rfl rfl rfl (m_in32 n (nI 1) (nI (bn b) - x) (by decide) rfl) ?_
    refine mj_b0 40 rfl ?_
    by_cases q2 : ¬ n < nI 1 ∧ ¬ nI (bn b) - x < n
    · refine mj_brf (fun z => vB_0.mp z q2) ?_
      refine mj_b0 40 rfl ?_
      refine mj_cS rfl rfl rfl rfl (m_isSheet y) ?_
      refine mj_b0 40 rfl ?_
      refine mj_brf (fun z => z (vB_0.mpr (fun z2 => hx ⟨q1, q2, z2⟩))) ?_
      refine mj_b0 40 rfl ?_
      exact mj_end rfl rfl trivial ⟨rfl, rfl⟩
    · refine mj_brt (vB_0.mpr q2) ?_
      refine mj_b0 40 rfl ?_
      exact mj_end rfl rfl trivial ⟨rfl, rfl⟩
  · refine mj_brt (vB_0.mpr q1) ?_
    refine mj_b0 40 rfl ?_
    exact mj_end rfl rfl trivial ⟨rfl, rfl⟩
theorem m_paints_null {b j k n : Nat} {i : Int32} (hb : b < 22) (h : Bd b g) (hj : j < bn b) (hk : k < 8) (h1 : 1 ≤ n) (h2 : n ≤ bn b - j) (hm : s.1 k = -(nI 1)) : mj_C (d + 3) nX9_paints [.ref 35, .int (nI j), .int (nI k), .int i, .int (nI n)] (fbP P (mdZ U s g w m t c v a)) (some (.int (-1000010 - nI 1))) (fbP P (mdZ (nI 0, nI 1) s g w m t c v a)) := by
  have t0 := tb0 hb
  have e1 : (nI k).toNatClampNeg = k := nI_clamp (by omega)
  refine mj_C.of rfl rfl rfl ?_
  refine mj_b0 40 rfl ?_
  refine mj_hq (h' := (fbP P (mdZ (nI 0, U.2) s g w m t c v a))) rfl ?_
  refine mj_cV rfl rfl rfl rfl rfl rfl (xm_isCell hb h (nI j)) ?_
  refine mj_b0 40 rfl ?_
  refine mj_brf (fun z => vB_0.mp z (okb hb hj)) ?_
  refine mj_b0 40 rfl ?_
  rw [bd_cl h, pk_sub (show j ≤ bn b by omega)]
  refine mj_cS rfl rfl rfl rfl (m_in32 (nI n) (nI 1) (nI (bn b - j)) (by decide) rfl) ?_
  refine mj_b0 40 rfl ?_
  refine mj_brf (fun z => vB_0.mp z ⟨nI_nlt (by omega) (by omega), nI_nlt (by omega) (by omega)⟩) ?_
  refine mj_b0 40 rfl ?_
  refine mj_cS rfl rfl rfl rfl (m_isSheet (nI k)) ?_
  refine mj_b0 40 rfl ?_
  refine mj_brt (fun z => vB_0.mp z (ok7 hk)) ?_
  refine mj_b1 40 rfl (nI_ix hk (by omega)) ?_
  rw [e1, hm]
  refine mj_brf (show ¬ (0 ≤ -(nI 1)) by decide) ?_
  refine mj_b0 40 rfl ?_
  refine mj_cV rfl rfl rfl rfl rfl rfl (m_finding (nI 1)) ?_
  exact mj_end rfl rfl trivial ⟨rfl, rfl⟩
theorem m_paints_place {b j k n nn : Nat} {i : Int32} (hb : b < 22) (h : Bd b g) (hj : j < bn b) (hk : k < 8) (h1 : 1 ≤ n) (h2 : n ≤ bn b - j) (hm : 0 ≤ s.1 k) (hn : s.2.1 k = nI nn) (hn2 : nn ≤ 60) (hh : ¬ ∃ i' : Nat, i = nI i' ∧ i' + n ≤ nn) : mj_C (d + 3) nX9_paints [.ref 35, .int (nI j), .int (nI k), .int i, .int (nI n)] (fbP P (mdZ U s g w m t c v a)) (some (.int (-1000010 - nI 2))) (fbP P (mdZ (nI 0, nI 2) s g w m t c v a)) := by
  have t0 := tb0 hb
  have e1 : (nI k).toNatClampNeg = k := nI_clamp (by omega)
  refine mj_C.of rfl rfl rfl ?_
  refine mj_b0 40 rfl ?_
  refine mj_hq (h' := (fbP P (mdZ (nI 0, U.2) s g w m t c v a))) rfl ?_
  refine mj_cV rfl rfl rfl rfl rfl rfl (xm_isCell hb h (nI j)) ?_
  refine mj_b0 40 rfl ?_
  refine mj_brf (fun z => vB_0.mp z (okb hb hj)) ?_
  refine mj_b0 40 rfl ?_
  rw [bd_cl h, pk_sub (show j ≤ bn b by omega)]
  refine mj_cS rfl rfl rfl rfl (m_in32 (nI n) (nI 1) (nI (bn b - j)) (by decide) rfl) ?_
  refine mj_b0 40 rfl ?_
  refine mj_brf (fun z => vB_0.mp z ⟨nI_nlt (by omega) (by omega), nI_nlt (by omega) (by omega)⟩) ?_
  refine mj_b0 40 rfl ?_
  refine mj_cS rfl rfl rfl rfl (m_isSheet (nI k)) ?_
  refine mj_b0 40 rfl ?_
  refine mj_brt (fun z => vB_0.mp z (ok7 hk)) ?_
  refine mj_b1 40 rfl (nI_ix hk (by omega)) ?_
  rw [e1]
  refine mj_brt (hm) ?_
  refine mj_b0 40 rfl ?_
  refine mj_br (fun q1 => ?_) (fun q1 => ?_)
  · refine mj_b0 40 rfl ?_
    refine mj_cV rfl rfl rfl rfl rfl rfl (m_finding (nI 2)) ?_
    exact mj_end rfl rfl trivial ⟨rfl, rfl⟩
  · obtain ⟨i', hi', rfl⟩ := nI_of q1
    refine mj_b1 40 rfl (nI_ix hk (by omega)) ?_
    rw [e1, hn, i64_add hi' (by omega), nI_l (show nn < 2 ^ 31 by omega)]
    refine mj_brf (fun z => by
      have z := (lg_cmp_le _ _).mp z
      rw [pk_lLE (by omega) (by omega)] at z
      exact hh ⟨i', rfl, z⟩) ?_
    refine mj_b0 40 rfl ?_
    refine mj_cV rfl rfl rfl rfl rfl rfl (m_finding (nI 2)) ?_
    exact mj_end rfl rfl trivial ⟨rfl, rfl⟩
theorem m_paints {ln mn it c1 : fA} {c2 : fA × fA} {b j k n nn i : Nat} (hb : b < 22) (h : Bd b g) (hj : j < bn b) (hk : k < 8) (h1 : 1 ≤ n) (h2 : n ≤ bn b - j) (hm : 0 ≤ ln k) (hn : mn k = nI nn) (hn2 : nn ≤ 60) (hi : i + n ≤ nn) : ∃ r U' c', mj_C (d + 3) nX9_paints [.ref 35, .int (nI j), .int (nI k), .int (nI i), .int (nI n)] (fbP P (mdZ U (ln, mn, it) g w m t (c1, c2) v a)) (some (.int r)) (fbP P (mdZ (nI 0, U') (ln, mn, it) g w m t (c', c2) v a)) ∧ (((∀ q, q < n → ¬ it (k * 60 + (i + q)) < 0 ∧ ¬ nI 4 ≤ it (k * 60 + (i + q))) ∧ r = nI n ∧ U' = nI 0 ∧ c' = pg it c1 j (k * 60 + i) n) ∨ (¬ (∀ q, q < n → ¬ it (k * 60 + (i + q)) < 0 ∧ ¬ nI 4 ≤ it (k * 60 + (i + q))) ∧ r = BD ∧ U' = U.2 ∧ c' = c1)) := by
  have t0 := tb0 hb
  have e1 : (nI k).toNatClampNeg = k := nI_clamp (by omega)
  have ix : ∀ x y z : Nat, nI 60 * nI x + nI y + nI z = nI (x * 60 + y + z) := fun x y z => by rw [pk_mul, nI_add, nI_add, Nat.mul_comm]
  have kk : ∃ r h', mj_C (d + 3) nX9_paints [.ref 35, .int (nI j), .int (nI k), .int (nI i), .int (nI n)] (fbP P (mdZ U (ln, mn, it) g w m t (c1, c2) v a)) r h' ∧ (((∀ q, q < n → ¬ it (k * 60 + (i + q)) < 0 ∧ ¬ nI 4 ≤ it (k * 60 + (i + q))) ∧ r = some (.int (nI n)) ∧ h' = fbP P (mdZ (nI 0, nI 0) (ln, mn, it) g w m t (pg it c1 j (k * 60 + i) n, c2) v a)) ∨ (¬ (∀ q, q < n → ¬ it (k * 60 + (i + q)) < 0 ∧ ¬ nI 4 ≤ it (k * 60 + (i + q))) ∧ r = some (.int BD) ∧ h' = fbP P (mdZ (nI 0, U.2) (ln, mn, it) g w m t (c1, c2) v a))) := by
    refine mj_C.ex rfl rfl rfl ?_
    refine mj_b0 40 rfl ?_
    refine mj_hq (h' := fbP P (mdZ (nI 0, U.2) (ln, mn, it) g w m t (c1, c2) v a)) rfl ?_
    refine mj_cV rfl rfl rfl rfl rfl rfl (xm_isCell hb h (nI j)) ?_
    refine mj_b0 40 rfl ?_
    refine mj_brf (fun z => vB_0.mp z (okb hb hj)) ?_
    refine mj_b0 40 rfl ?_
    rw [bd_cl h, pk_sub (show j ≤ bn b by omega)]
    refine mj_cS rfl rfl rfl rfl (m_in32 (nI n) (nI 1) (nI (bn b - j)) (by decide) rfl) ?_
    refine mj_b0 40 rfl ?_
    refine mj_brf (fun z => vB_0.mp z ⟨nI_nlt (by omega) (by omega), nI_nlt (by omega) (by omega)⟩) ?_
    refine mj_b0 40 rfl ?_
    refine mj_cS rfl rfl rfl rfl (m_isSheet (nI k)) ?_
    refine mj_b0 40 rfl ?_
    refine mj_brt (fun z => vB_0.mp z (ok7 hk)) ?_
    refine mj_b1 40 rfl (nI_ix hk (by omega)) ?_
    rw [e1]
    refine mj_brt (hm) ?_
    refine mj_b0 40 rfl ?_
    refine mj_brf (nI_pos (by omega)) ?_
    refine mj_b1 40 rfl (nI_ix hk (by omega)) ?_
    rw [e1, show (ln, mn, it).2.1 k = nI nn from hn, i64_add (by omega) (by omega), nI_l (show nn < 2 ^ 31 by omega)]
    refine mj_brt ((lg_cmp_le _ _).mpr ((pk_lLE (by omega) (by omega)).mpr hi)) ?_
    refine mj_b0 2 rfl ?_
    refine mj_itI (fun q (_ : Unit) => ∀ p, p < q → ¬ it (k * 60 + (i + p)) < 0 ∧ ¬ nI 4 ≤ it (k * 60 + (i + p))) (fun q _ => (85, [some (.ref 35), some (.int (nI j)), some (.int (nI k)), some (.int (nI i)), some (.int (nI n)), some (.int (nI q))], [], fbP P (mdZ (nI 0, U.2) (ln, mn, it) g w m t (c1, c2) v a))) n (fun q _ hq hI ih => ?_) (fun _ hI => ?_) () (fun p hp => absurd hp (by omega))
    · have e3 : (nI (k * 60 + i + q)).toNatClampNeg = k * 60 + (i + q) := by rw [Nat.add_assoc]; exact nI_clamp (by omega)
      refine mj_b0 40 rfl ?_
      refine mj_brf (nI_ge hq (by omega)) ?_
      refine mj_b1 40 rfl (by
        show vp_in (nI 60 * nI k + nI i + nI q) 480
        rw [ix]
        exact nI_ix (by omega) (by omega)) ?_
      refine mj_sq (S' := (111, [some (.ref 35), some (.int (nI j)), some (.int (nI k)), some (.int (nI i)), some (.int (nI n)), some (.int (nI q))], [.long 3, .long (Int64.ofNat 0), .long (it (k * 60 + (i + q))).toInt64], fbP P (mdZ (nI 0, U.2) (ln, mn, it) g w m t (c1, c2) v a))) (by rw [← e3, ← ix] <;> rfl) ?_
      refine mj_cS rfl rfl rfl rfl (m_in32 (it (k * 60 + (i + q))) 0 (nI 3) (by decide) (by decide)) ?_
      refine mj_b0 40 rfl ?_
      by_cases z : ¬ it (k * 60 + (i + q)) < 0 ∧ ¬ nI 4 ≤ it (k * 60 + (i + q))
      · refine mj_brt (fun z2 => vB_0.mp z2 (i4.mpr z)) ?_
        refine mj_b0 2 rfl ?_
        have ih := ih () (fun p hp => by
          by_cases e : p = q
          · rw [e]; exact z
          · exact hI p (by omega))
        rw [← nI_add q 1] at ih
        exact ih
      · refine mj_brf (fun z2 => z2 (vB_0.mpr (fun z3 => z (i4.mp z3)))) ?_
        refine mj_b0 40 rfl ?_
        exact mj_end rfl rfl trivial (Or.inr ⟨fun z2 => z (z2 q hq), rfl, rfl⟩)
    · refine mj_b0 40 rfl ?_
      refine mj_brt (nI_le (by omega) (by omega)) ?_
      refine mj_b0 5 rfl ?_
      refine mj_hq (h' := fbP P (mdZ (nI 0, nI 0) (ln, mn, it) g w m t (pg it c1 j (k * 60 + i) 0, c2) v a)) (Eq.trans (b := fbP P (mdZ (nI 0, nI 0) (ln, mn, it) g w m t (c1, c2) v a)) rfl (by rw [pg_0])) ?_
      refine mj_iter (fun q => (134, [some (.ref 35), some (.int (nI j)), some (.int (nI k)), some (.int (nI i)), some (.int (nI n)), some (.int (nI q))], [], fbP P (mdZ (nI 0, nI 0) (ln, mn, it) g w m t (pg it c1 j (k * 60 + i) q, c2) v a))) n (fun q hq ih => ?_) ?_
      · have e2 : (nI (j + q)).toNatClampNeg = j + q := nI_clamp (by omega)
        have e3 : (nI (k * 60 + i + q)).toNatClampNeg = k * 60 + i + q := nI_clamp (by omega)
        rw [← nI_add q 1] at ih
        refine mj_b0 40 rfl ?_
        refine mj_brf (nI_ge hq (by omega)) ?_
        refine mj_b1 16 rfl (by
          show vp_in (nI 60 * nI k + nI i + nI q) 480 ∧ vp_in (nI j + nI q) 400
          rw [ix, nI_add]
          exact ⟨nI_ix (by omega) (by omega), nI_ix (by omega) (by omega)⟩) ?_
        refine mj_hq (h' := fbP P (mdZ (nI 0, nI 0) (ln, mn, it) g w m t (pg it c1 j (k * 60 + i) (q + 1), c2) v a)) (Eq.trans (b := fbP P (mdZ (nI 0, nI 0) (ln, mn, it) g w m t (upd (pg it c1 j (k * 60 + i) q) (nI j + nI q).toNatClampNeg (it (nI 60 * nI k + nI i + nI q).toNatClampNeg), c2) v a)) rfl (by rw [ix, nI_add, e2, e3, pg_s])) ?_
        refine mj_b0 2 rfl ?_
        exact ih
      · refine mj_b0 40 rfl ?_
        refine mj_brt (nI_le (by omega) (by omega)) ?_
        refine mj_b0 40 rfl ?_
        exact mj_end rfl rfl trivial (Or.inl ⟨hI, rfl, rfl⟩)
  obtain ⟨r, h', k1, ⟨k2, rfl, rfl⟩ | ⟨k2, rfl, rfl⟩⟩ := kk
  · exact ⟨_, _, _, k1, Or.inl ⟨k2, rfl, rfl, rfl⟩⟩
  · exact ⟨_, _, _, k1, Or.inr ⟨k2, rfl, rfl, rfl⟩⟩
end PSm
