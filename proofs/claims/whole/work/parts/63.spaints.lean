/-! promises 21 and 22, side by side -/
section PSS
variable {d : Nat}
/-- promise 21 -/
theorem s_paints (x y i n : Int32) : Sim (d + 3) nX8_paints nX9_paints [.int x, .int y, .int i, .int n] := by
  intro P z hr
  obtain ⟨U, ⟨mln, mn, mit⟩, g, w, m, t, ⟨c1, c2⟩, v, a⟩ := z
  obtain ⟨sc, F, ⟨it, ln, sz⟩, G, Y, M, T, ⟨C1, C2⟩, V, A⟩ := P
  obtain ⟨b, hb, h1, h2, h3, h4, h5, h6, h7, h8, h9, h10⟩ := id hr
  have t0 := tb0 hb
  have h : Bd b G := h1
  have h' : Bd b g := h2
  have h9' : ClR b C1 c1 := h9
  have h5' : ShR (it, ln, sz) (mln, mn, mit) := h5
  by_cases q : (¬ x < 0 ∧ ¬ nI (bn b) ≤ x) ∧ (¬ n < nI 1 ∧ ¬ nI (bn b) - x < n) ∧ (¬ y < 0 ∧ ¬ nI 8 ≤ y)
  · obtain ⟨q1, ⟨q2, q3⟩, q4⟩ := q
    rcases ixb hb x with z | ⟨j, hj, rfl⟩
    · exact absurd q1 z
    rcases ix8 y with z | ⟨k, hk, rfl⟩
    · exact absurd q4 (no8 z)
    rw [pk_sub (by omega)] at q3
    have hn : ∃ n' : Nat, 1 ≤ n' ∧ n' ≤ bn b - j ∧ n = nI n' := by
      rcases pk_ix n (n := bn b - j + 1) (by omega) with z | z | ⟨k, hk, rfl⟩
      · exfalso
        apply q2
        rw [Int32.lt_iff_toInt_lt] at z ⊢
        rw [nI_toInt (by omega)]
        have e0 : (0 : Int32).toInt = 0 := by decide
        omega
      · exfalso
        apply q3
        rw [Int32.le_iff_toInt_le, nI_toInt (by omega)] at z
        rw [Int32.lt_iff_toInt_lt, nI_toInt (by omega)]
        omega
      · refine ⟨k, ?_, by omega, rfl⟩
        rcases Nat.lt_or_ge k 1 with z | z
        · exact absurd (nI_lt z (by omega)) q2
        · exact z
    obtain ⟨n', n1, n2, rfl⟩ := hn
    obtain ⟨a1, a2, nn, a3, a4, a5, a6⟩ := h5' k hk
    have a1' : ln k = mln k := a1
    have a2' : mln k = -(nI 1) ∨ mln k = nI 0 ∨ mln k = nI 1 ∨ mln k = nI 2 := a2
    have a4' : sz k = nI nn := a4
    have a5' : mn k = nI nn := a5
    by_cases k1 : mln k = -(nI 1)
    · exact ⟨_, (sc, (nI 1, F.2), (it, ln, sz), G, Y, M, T, (C1, C2), V, A), ((nI 0, nI 1), (mln, mn, mit), g, w, m, t, (c1, c2), v, a), c_paints_null hb h hj hk n1 n2 (a1'.trans k1), m_paints_null hb h' hj hk n1 n2 k1, ⟨b, hb, h1, h2, rfl, h4, h5, h6, h7, h8, h9, h10⟩⟩
    have k1' : ln k ≠ -(nI 1) := fun z => k1 (a1'.symm.trans z)
    by_cases k2 : ∃ i' : Nat, i = nI i' ∧ i' + n' ≤ nn
    · obtain ⟨i', rfl, k3⟩ := k2
      have hit : ∀ q, q < n' → it (k * 60 + (i' + q)) = mit (k * 60 + (i' + q)) := fun q hq => a6 k1 (i' + q) (by omega)
      obtain ⟨r, F', C', g1, g2⟩ := c_paints (sc := sc) (F := F) (it := it) (ln := ln) (sz := sz) (C1 := C1) (C2 := C2) (Y := Y) (M := M) (T := T) (V := V) (A := A) (Z := mdz (U, (mln, mn, mit), g, w, m, t, (c1, c2), v, a)) (d := d) (i := i') hb h hj hk n1 n2 k1' (by omega) (by
        rw [a4', pk_sub (by omega)]
        exact ⟨nI_pos (by omega), nI_pos (by omega), nI_nlt (by omega) (by omega), nI_nlt (by omega) (by omega)⟩)
      obtain ⟨r', U', c', g3, g4⟩ := m_paints (P := (sc, F', (it, ln, sz), G, Y, M, T, (C', C2), V, A)) (U := U) (ln := mln) (mn := mn) (it := mit) (w := w) (m := m) (t := t) (c1 := c1) (c2 := c2) (v := v) (a := a) (d := d) (i := i') hb h' hj hk n1 n2 (lane4 a2' k1) a5' a3 k3
      have ec : (∀ q, q < n' → ¬ it (k * 60 + (i' + q)) < 0 ∧ ¬ nI 4 ≤ it (k * 60 + (i' + q))) ↔ (∀ q, q < n' → ¬ mit (k * 60 + (i' + q)) < 0 ∧ ¬ nI 4 ≤ mit (k * 60 + (i' + q))) := by
        constructor
        · intro z q hq
          rw [← hit q hq]
          exact z q hq
        · intro z q hq
          rw [hit q hq]
          exact z q hq
      rcases g2 with ⟨g5, rfl, rfl, rfl⟩ | ⟨g5, rfl, rfl, rfl⟩
      · rcases g4 with ⟨g6, rfl, rfl, rfl⟩ | ⟨g6, -, -, -⟩
        · refine ⟨_, (sc, (nI 0, F.2), (it, ln, sz), G, Y, M, T, (_, C2), V, A), ((nI 0, nI 0), (mln, mn, mit), g, w, m, t, (_, c2), v, a), g1, g3, ⟨b, hb, h1, h2, rfl, h4, h5, h6, h7, h8, ?_, h10⟩⟩
          intro q hq
          show pg it C1 j (k * 60 + i') n' q = pg mit c1 j (k * 60 + i') n' q ∧ (pg mit c1 j (k * 60 + i') n' q = NO ∨ ∃ r, r < 4 ∧ pg mit c1 j (k * 60 + i') n' q = nI r)
          by_cases l : j ≤ q ∧ q < j + n'
          · rw [show pg it C1 j (k * 60 + i') n' q = it (k * 60 + i' + (q - j)) from if_pos l, show pg mit c1 j (k * 60 + i') n' q = mit (k * 60 + i' + (q - j)) from if_pos l, Nat.add_assoc]
            exact ⟨hit (q - j) (by omega), Or.inr (col4 (g6 (q - j) (by omega)))⟩
          · rw [show pg it C1 j (k * 60 + i') n' q = C1 q from if_neg l, show pg mit c1 j (k * 60 + i') n' q = c1 q from if_neg l]
            exact h9' q hq
        · exact absurd (ec.mp g5) g6
      · rcases g4 with ⟨g6, -, -, -⟩ | ⟨g6, rfl, rfl, rfl⟩
        · exact absurd (ec.mpr g6) g5
        · exact ⟨_, (sc, F', (it, ln, sz), G, Y, M, T, (C', C2), V, A), ((nI 0, U.2), (mln, mn, mit), g, w, m, t, (c', c2), v, a), g1, g3, hr.thrown⟩
    · refine ⟨_, (sc, (nI 2, F.2), (it, ln, sz), G, Y, M, T, (C1, C2), V, A), ((nI 0, nI 2), (mln, mn, mit), g, w, m, t, (c1, c2), v, a), c_paints_place hb h hj hk n1 n2 k1' ?_, m_paints_place hb h' hj hk n1 n2 (lane4 a2' k1) a5' a3 k2, ⟨b, hb, h1, h2, rfl, h4, h5, h6, h7, h8, h9, h10⟩⟩
      show ¬ (¬ i < 0 ∧ ¬ nI n' < 0 ∧ ¬ sz k < i ∧ ¬ sz k - i < nI n')
      rw [a4']
      rintro ⟨z1, z2, z3, z4⟩
      obtain ⟨i', hi, rfl⟩ := nI_of z1
      have y1 : i' ≤ nn := Nat.le_of_not_lt (fun z => z3 (nI_lt z hi))
      rw [pk_sub y1] at z4
      have y3 : n' ≤ nn - i' := Nat.le_of_not_lt (fun z => z4 (nI_lt z (by omega)))
      exact k2 ⟨i', rfl, by omega⟩
  · exact ⟨BD, (sc, F, (it, ln, sz), G, Y, M, T, (C1, C2), V, A), ((nI 0, U.2), (mln, mn, mit), g, w, m, t, (c1, c2), v, a), c_paints_bad hb h q, m_paints_bad hb h' (by rw [← eq87]; exact q), hr.thrown⟩
end PSS
/-! clashes -/
def clQ (b : Nat) (col : fA) (c s : Nat) : Prop := tAt b c s ≠ 1023 ∧ c < tAt b c s ∧ col c ≠ NO ∧ col c = col (tAt b c s)
noncomputable def clI (b : Nat) (col : fA) (c : Nat) (x : Int32) : Nat → Int32
  | 0 => x
  | s + 1 => clI b col c x s + @ite _ (clQ b col c s) (Classical.propDecidable _) (nI 1) (nI 0)
noncomputable def clO (b : Nat) (col : fA) : Nat → Int32
  | 0 => nI 0
  | c + 1 => clI b col c (clO b col c) (bp b)
theorem clI_t {b c s : Nat} {col : fA} {x : Int32} (h : clQ b col c s) : clI b col c x (s + 1) = clI b col c x s + nI 1 := by
  show clI b col c x s + @ite _ _ (Classical.propDecidable _) _ _ = _
  rw [if_pos h]
theorem clI_f {b c s : Nat} {col : fA} {x : Int32} (h : ¬ clQ b col c s) : clI b col c x (s + 1) = clI b col c x s := by
  show clI b col c x s + @ite _ _ (Classical.propDecidable _) _ _ = _
  rw [if_neg h, show nI 0 = 0 from rfl, Int32.add_zero]
theorem clI_f0 {b c s : Nat} {col : fA} {x : Int32} (h : ¬ clQ b col c s) : clI b col c x (s + 1) = clI b col c x s + nI 0 := by
  rw [clI_f h, show nI 0 = 0 from rfl, Int32.add_zero]
theorem nv_le {x c : Nat} (hx : x < 2 ^ 20) (hc : c < 2 ^ 20) : nv x ≤ nI c ↔ (x = 1023 ∨ x ≤ c) := by
  by_cases h : x = 1023
  · rw [h]
    refine ⟨fun _ => Or.inl rfl, fun _ => ?_⟩
    rw [nv_no, Int32.le_iff_toInt_le, nI_toInt (by omega)]
    have e : (NO : Int32).toInt = -1000000 := by decide
    omega
  · rw [nv_is h, nI_leI (by omega) (by omega)]
    exact ⟨Or.inr, fun z => z.resolve_left h⟩
section CLC
variable {sc : mj_E} {F : Int32 × Int32} {S : fA × fA × fA} {G : fG} {Y : fY} {M : fM} {T : fT} {C : fC} {V : fV} {A : fA × Int32} {Z : mj_H} {d : Nat}
theorem c_clash {j k : Nat} (hj : j < 400) (hk : k < 400) : mj_C (d + 1) nX1_clash [.ref 26, .int (nI j), .int (nI k)] (fbH sc F S G Y M T C V A Z) (some (.int (vB (C.1 j ≠ NO ∧ C.1 j = C.1 k)))) (fbH sc F S G Y M T C V A Z) := by
  have e1 : (nI j).toNatClampNeg = j := nI_clamp (by omega)
  have e2 : (nI k).toNatClampNeg = k := nI_clamp (by omega)
  refine mj_C.of rfl rfl rfl ?_
  refine mj_b1 40 rfl (nI_ix hj (by omega)) ?_
  rw [e1]
  refine mj_br (fun h1 => ?_) (fun h1 => ?_)
  · refine mj_b0 40 rfl ?_
    exact mj_end rfl rfl (Or.inl rfl) ⟨by rw [vB_f (fun q => q.1 h1)]; rfl, rfl⟩
  · refine mj_b1 40 rfl (⟨nI_ix hj (by omega), nI_ix hk (by omega)⟩) ?_
    rw [e1, e2]
    refine mj_br (fun h2 => ?_) (fun h2 => ?_)
    · refine mj_b0 40 rfl ?_
      exact mj_end rfl rfl (Or.inl rfl) ⟨by rw [vB_f (fun q => h2 q.2)]; rfl, rfl⟩
    · refine mj_b0 40 rfl ?_
      exact mj_end rfl rfl (Or.inr rfl) ⟨by rw [vB_t ⟨h1, Decidable.not_not.mp h2⟩]; rfl, rfl⟩
theorem c_clashes {b : Nat} {col : fA} (hb : b < 22) (h : Bd b G) (hc : ∀ k, k < bn b → C.1 k = col k) : mj_C (d + 3) nX8_clashes [.ref 1] (fbH sc F S G Y M T C V A Z) (some (.int (clO b col (bn b)))) (fbH sc F S G Y M T C V A Z) := by
  have t0 := tb0 hb
  have k : mj_C (d + 2) nX1_countClashes [.ref 26] (fbH sc F S G Y M T C V A Z) (some (.int (clO b col (bn b)))) (fbH sc F S G Y M T C V A Z) := by
    refine mj_C.of rfl rfl rfl ?_
    refine mj_b0 4 rfl ?_
    refine mj_itJ (fun k (o : Option Value × Option Value) => (4, [some (.ref 26), some (.int (clO b col k)), some (.int (nI k)), o.1, o.2], [], (fbH sc F S G Y M T C V A Z))) (bn b) (fun k o hk ih => ?_) (fun o => ?_) (none, none)
    · have ts := st_lt hb hk
      have e1 : (nI k).toNatClampNeg = k := nI_clamp (by omega)
      have e2 : nI k + mj_kc 1 = nI (k + 1) := nI_add k 1
      have e3 : (nI (k + 1)).toNatClampNeg = k + 1 := nI_clamp (by omega)
      have i1 : vp_in (nI k) 401 := nI_ix (show k < 401 by omega) (by omega)
      have i2 : vp_in (nI k + mj_kc 1) 401 := by rw [e2]; exact nI_ix (show k + 1 < 401 by omega) (by omega)
      have hX : ∀ s, s < bp b → tAt b k s = 1023 → clI b col k (clO b col k) (s + 1) = clI b col k (clO b col k) s := fun s _ q => clI_f (fun y => y.1 q)
      have x0 := nbp_0 hb hk (clI b col k (clO b col k)) hX
      refine mj_b0 40 rfl ?_
      refine mj_brf (by rw [bd_cl h]; exact nI_ge hk (by omega)) ?_
      refine mj_b1 6 rfl (i1) ?_
      rw [e1, h.st hk]
      refine mj_sq (S' := (25, [some (.ref 26), some (.int (clI b col k (clO b col k) (nbp b k 0))), some (.int (nI k)), some (.int (nI (tSt b k + 0))), o.2], [], (fbH sc F S G Y M T C V A Z))) (by rw [x0] <;> rfl) ?_
      refine mj_itJ (fun i (o : Option Value) => (25, [some (.ref 26), some (.int (clI b col k (clO b col k) (nbp b k i))), some (.int (nI k)), some (.int (nI (tSt b k + i))), o], [], (fbH sc F S G Y M T C V A Z))) (tDg b k) (fun i o hi iq => ?_) (fun o => ?_) o.2
      · obtain ⟨s, hs, e6, e7, e8⟩ := nbp_n hb hk (clI b col k (clO b col k)) hX hi
        have ok := tNb_ok hb hk hi
        have e4 : (nI (tSt b k + i)).toNatClampNeg = tSt b k + i := nI_clamp (by omega)
        have e5 : (nI (tNb b k i)).toNatClampNeg = tNb b k i := nI_clamp (by omega)
        have i3 : vp_in (nI (tSt b k + i)) 2400 := nI_ix (show tSt b k + i < 2400 by omega) (by omega)
        have i4 : vp_in (nI (tNb b k i)) 400 := nI_ix (show tNb b k i < 400 by omega) (by omega)
        have iq := iq (some (.int (nI (tNb b k i))))
        rw [e7]
        rw [e8, ← Nat.add_assoc (tSt b k) i 1, ← nI_add (tSt b k + i) 1] at iq
        refine mj_b1 40 rfl (i2) ?_
        rw [e2, e3, h.sn hk]
        refine mj_brf (nI_ge (by omega) (by omega)) ?_
        refine mj_b1 40 rfl (i3) ?_
        rw [e4, h.nb hk hi]
        by_cases z : tNb b k i ≤ k
        · refine mj_brt (nI_le z (by omega)) ?_
          refine mj_b0 5 rfl ?_
          rw [clI_f0 (fun y => by have := y.2.1; rw [e6] at this; omega)] at iq
          exact iq
        · refine mj_brf (nI_ge (by omega) (by omega)) ?_
          refine mj_b0 40 rfl ?_
          refine mj_cV rfl rfl rfl rfl rfl rfl (c_clash (show k < 400 by omega) (show tNb b k i < 400 by omega)) ?_
          rw [hc k hk, hc _ ok.2.1]
          refine mj_b0 40 rfl ?_
          by_cases z3 : col k ≠ NO ∧ col k = col (tNb b k i)
          · refine mj_brf (fun y => vB_0.mp y z3) ?_
            refine mj_b0 6 rfl ?_
            rw [clI_t ⟨by rw [e6]; exact ok.1, by rw [e6]; omega, by rw [e6]; exact z3⟩] at iq
            exact iq
          · refine mj_brt (vB_0.mpr z3) ?_
            refine mj_b0 5 rfl ?_
            rw [clI_f0 (fun y => z3 (by rw [← e6]; exact y.2.2))] at iq
            exact iq
      · have ih := ih (some (.int (nI (tSt b k + tDg b k))), o)
        rw [← nI_add k 1] at ih
        refine mj_b1 40 rfl (i2) ?_
        rw [e2, e3, h.sn hk, nbp_end]
        refine mj_brt (nI_le (Nat.le_refl _) (by omega)) ?_
        refine mj_b0 2 rfl ?_
        exact ih
    · refine mj_b0 40 rfl ?_
      refine mj_brt (by rw [bd_cl h]; exact nI_le (by omega) (by omega)) ?_
      refine mj_b0 40 rfl ?_
      exact mj_end rfl rfl trivial ⟨rfl, rfl⟩
  refine mj_C.of rfl rfl rfl ?_
  refine mj_b0 40 rfl ?_
  refine mj_cV rfl rfl rfl rfl rfl rfl (k) ?_
  exact mj_end rfl rfl trivial ⟨rfl, rfl⟩
end CLC
section CLM
variable {P : fP} {U : fU} {s : fA × fA × fA} {g : fG} {w : fW} {m : fM} {t : fR} {c : fA × fA × fA} {v : fA × fA} {a : fA × Int32} {d : Nat}
theorem m_clashes {b : Nat} (hb : b < 22) (h : Bd b g) : mj_C (d + 3) nX9_clashes [.ref 35] (fbP P (mdZ U s g w m t c v a)) (some (.int (clO b c.1 (bn b)))) (fbP P (mdZ (nI 0, U.2) s g w m t c v a)) := by
  have t0 := tb0 hb
  refine mj_C.of rfl rfl rfl ?_
  refine mj_b0 7 rfl ?_
  refine mj_hq (h' := (fbP P (mdZ (nI 0, U.2) s g w m t c v a))) rfl ?_
  refine mj_itJ (fun k (o : Option Value × Option Value) => (9, [some (.ref 35), some (.int (clO b c.1 k)), some (.int (nI k)), o.1, o.2], [], (fbP P (mdZ (nI 0, U.2) s g w m t c v a)))) (bn b) (fun k o hk ih => ?_) (fun o => ?_) (none, none)
  · have t1 := tb1 hb hk
    have e1 : (nI k).toNatClampNeg = k := nI_clamp (by omega)
    have hi : vp_in (nI k) 400 := nI_ix (show k < 400 by omega) (by omega)
    refine mj_b0 40 rfl ?_
    refine mj_brf (by rw [bd_cl h]; exact nI_ge hk (by omega)) ?_
    refine mj_b0 2 rfl ?_
    refine mj_itJ (fun q (o : Option Value) => (19, [some (.ref 35), some (.int (clI b c.1 k (clO b c.1 k) q)), some (.int (nI k)), some (.int (nI q)), o], [], (fbP P (mdZ (nI 0, U.2) s g w m t c v a)))) (bp b) (fun q o hq iq => ?_) (fun o => ?_) o.2
    · have e3 : nI 10 * nI k + nI q = nI (k * 10 + q) := by rw [pk_mul, nI_add, Nat.mul_comm]
      have e4 : (nI (k * 10 + q)).toNatClampNeg = k * 10 + q := nI_clamp (by omega)
      have iq := iq (some (.int (nv (tAt b k q))))
      rw [← nI_add q 1] at iq
      refine mj_b0 40 rfl ?_
      refine mj_brf (by rw [bd_sd h]; exact nI_ge hq (by omega)) ?_
      refine mj_b1 8 rfl (by show vp_in (nI 10 * nI k + nI q) 4000; rw [e3]; exact nI_ix (by omega) (by omega)) ?_
      refine mj_sq (S' := (38, [some (.ref 35), some (.int (clI b c.1 k (clO b c.1 k) q)), some (.int (nI k)), some (.int (nI q)), o], [.int (nv (tAt b k q))], (fbP P (mdZ (nI 0, U.2) s g w m t c v a)))) (by rw [← bd_at h hk hq, ← e4, ← e3] <;> rfl) ?_
      refine mj_b0 40 rfl ?_
      by_cases z : tAt b k q = 1023 ∨ tAt b k q ≤ k
      · refine mj_brt ((nv_le (tAt_lt b k q) (by omega)).mpr z) ?_
        refine mj_b0 5 rfl ?_
        rw [clI_f0 (fun y => z.elim y.1 (fun y2 => by have := y.2.1; omega))] at iq
        exact iq
      · have z1 : tAt b k q ≠ 1023 := fun y => z (Or.inl y)
        have z2 : k < tAt b k q := Nat.lt_of_not_le (fun y => z (Or.inr y))
        have hx2 : tAt b k q < bn b := ((t1.2.2.2.2.2 q hq).resolve_left z1).1
        have e2 : (nI (tAt b k q)).toNatClampNeg = tAt b k q := nI_clamp (by omega)
        refine mj_brf (fun y => z ((nv_le (tAt_lt b k q) (by omega)).mp y)) ?_
        rw [nv_is z1] at iq ⊢
        refine mj_b1 40 rfl (hi) ?_
        rw [e1]
        by_cases z3 : c.1 k = NO
        · refine mj_brt (z3) ?_
          refine mj_b0 5 rfl ?_
          rw [clI_f0 (fun y => y.2.2.1 z3)] at iq
          exact iq
        · refine mj_brf (z3) ?_
          refine mj_b1 40 rfl (⟨hi, nI_ix (show tAt b k q < 400 by omega) (by omega)⟩) ?_
          rw [e1, e2]
          by_cases z4 : c.1 k = c.1 (tAt b k q)
          · refine mj_brf (fun y => y z4) ?_
            refine mj_b0 6 rfl ?_
            rw [clI_t ⟨z1, z2, z3, z4⟩] at iq
            exact iq
          · refine mj_brt (z4) ?_
            refine mj_b0 5 rfl ?_
            rw [clI_f0 (fun y => z4 y.2.2.2)] at iq
            exact iq
    · have ih := ih (some (.int (nI (bp b))), o)
      rw [← nI_add k 1] at ih
      refine mj_b0 40 rfl ?_
      refine mj_brt (by rw [bd_sd h]; exact nI_le (by omega) (by omega)) ?_
      refine mj_b0 2 rfl ?_
      exact ih
  · refine mj_b0 40 rfl ?_
    refine mj_brt (by rw [bd_cl h]; exact nI_le (by omega) (by omega)) ?_
    refine mj_b0 40 rfl ?_
    exact mj_end rfl rfl trivial ⟨rfl, rfl⟩
end CLM
section CLS
variable {d : Nat}
/-- promise 22 -/
theorem s_clashes : Sim (d + 3) nX8_clashes nX9_clashes [] := by
  intro P z hr
  obtain ⟨U, s, g, w, m, t, c, v, a⟩ := z
  obtain ⟨sc, F, S, G, Y, M, T, C, V, A⟩ := P
  obtain ⟨b, hb, h1, h2, h3, h4, h5, h6, h7, h8, h9, h10⟩ := id hr
  have h9' : ClR b C.1 c.1 := h9
  exact ⟨_, (sc, F, S, G, Y, M, T, C, V, A), ((nI 0, U.2), s, g, w, m, t, c, v, a), c_clashes hb h1 (fun k hk => (h9' k hk).1), m_clashes hb h2, hr.thrown⟩
end CLS
