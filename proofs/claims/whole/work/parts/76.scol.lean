/-! promises 23 and 24, side by side -/
def CTb (b : Nat) (x y : Int32) : Prop := (¬ x < nI 1 ∧ ¬ nI 16 < x) ∧ ¬ nI (bn b) < x ∧ (¬ y < nI 1 ∧ ¬ nI 4 < y)
theorem CTb.of {b : Nat} {x y : Int32} (hb : b < 22) (h : CTb b x y) : ∃ m k : Nat, x = nI m ∧ y = nI k ∧ 1 ≤ m ∧ m ≤ 16 ∧ m ≤ bn b ∧ 1 ≤ k ∧ k ≤ 4 := by
  have t0 := tb0 hb
  obtain ⟨⟨h1, h2⟩, h3, h4, h5⟩ := h
  have gen : ∀ (z : Int32) (N : Nat), N < 1000 → ¬ z < nI 1 → ¬ nI N < z → ∃ k : Nat, z = nI k ∧ 1 ≤ k ∧ k ≤ N := by
    intro z N hN a1 a2
    rcases pk_ix z (n := N + 1) (by omega) with q | q | ⟨k, hk, rfl⟩
    · exfalso
      apply a1
      rw [Int32.lt_iff_toInt_lt] at q ⊢
      rw [nI_toInt (by omega)]
      have e0 : (0 : Int32).toInt = 0 := by decide
      omega
    · exfalso
      apply a2
      rw [Int32.le_iff_toInt_le, nI_toInt (by omega)] at q
      rw [Int32.lt_iff_toInt_lt, nI_toInt (by omega)]
      omega
    · refine ⟨k, rfl, ?_, by omega⟩
      rcases Nat.lt_or_ge k 1 with z | z
      · exact absurd (nI_lt z (by omega)) a1
      · exact z
  obtain ⟨m, rfl, m1, m2⟩ := gen x 16 (by omega) h1 h2
  obtain ⟨k, rfl, k1, k2⟩ := gen y 4 (by omega) h4 h5
  refine ⟨m, k, rfl, rfl, m1, m2, ?_, k1, k2⟩
  rcases Nat.lt_or_ge (bn b) m with z | z
  · exact absurd (nI_lt z (by omega)) h3
  · exact z
section SK
variable {sc : mj_E} {F : Int32 × Int32} {S : fA × fA × fA} {G : fG} {Y : fY} {M : fM} {T : fT} {C : fC} {V : fV} {A : fA × Int32} {Z : mj_H} {d : Nat}
theorem c_count_t {b : Nat} {x y : Int32} (h : Bd b G) (hc : CTb b x y) : mj_C (d + 1) nX8_isCountable [.ref 1, .int x, .int y] (fbH sc F S G Y M T C V A Z) (some (.int (nI 1))) (fbH sc F S G Y M T C V A Z) := by
  obtain ⟨⟨h1, h2⟩, h3, h4, h5⟩ := hc
  refine mj_C.of rfl rfl rfl ?_
  refine mj_b0 40 rfl ?_
  refine mj_brf (h1) ?_
  refine mj_b0 40 rfl ?_
  refine mj_brf (h2) ?_
  refine mj_b0 40 rfl ?_
  refine mj_brf (by rw [bd_cl h]; exact h3) ?_
  refine mj_b0 40 rfl ?_
  refine mj_brf (h4) ?_
  refine mj_b0 40 rfl ?_
  refine mj_brf (h5) ?_
  refine mj_b0 40 rfl ?_
  exact mj_end rfl rfl (Or.inr rfl) ⟨rfl, rfl⟩
theorem c_count_f {b : Nat} {x y : Int32} (h : Bd b G) (hc : ¬ CTb b x y) : mj_C (d + 1) nX8_isCountable [.ref 1, .int x, .int y] (fbH sc F S G Y M T C V A Z) (some (.int (nI 0))) (fbH sc F S G Y M T C V A Z) := by
  have fin : mj_R (mj_C d) 8 false (some .boolean) iX8_isCountable (36, [some (.ref 1), some (.int x), some (.int y)], [], (fbH sc F S G Y M T C V A Z)) (fun r2 h2 => r2 = some (.int (nI 0)) ∧ h2 = (fbH sc F S G Y M T C V A Z)) := by
    refine mj_b0 40 rfl ?_
    exact mj_end rfl rfl (Or.inl rfl) ⟨rfl, rfl⟩
  refine mj_C.of rfl rfl rfl ?_
  refine mj_b0 40 rfl ?_
  refine mj_br (fun h1 => ?_) (fun h1 => ?_)
  · exact fin
  refine mj_b0 40 rfl ?_
  refine mj_br (fun h2 => ?_) (fun h2 => ?_)
  · exact fin
  refine mj_b0 40 rfl ?_
  rw [bd_cl h]
  refine mj_br (fun h3 => ?_) (fun h3 => ?_)
  · exact fin
  refine mj_b0 40 rfl ?_
  refine mj_br (fun h4 => ?_) (fun h4 => ?_)
  · exact fin
  refine mj_b0 40 rfl ?_
  refine mj_br (fun h5 => ?_) (fun h5 => ?_)
  · exact fin
  exact absurd ⟨⟨h1, h2⟩, h3, h4, h5⟩ hc
end SK
section SKm
variable {P : fP} {U : fU} {s : fA × fA × fA} {g : fG} {w : fW} {m : fM} {t : fR} {c : fA × fA × fA} {v : fA × fA} {a : fA × Int32} {d : Nat}
theorem m_some_t {b : Nat} {x y : Int32} (h : Bd b g) (hc : CTb b x y) : mj_C (d + 2) nX9_isSome [.ref 35, .int x, .int y] (fbP P (mdZ U s g w m t c v a)) (some (.int (nI 1))) (fbP P (mdZ U s g w m t c v a)) := by
  obtain ⟨h1, h3, h4⟩ := hc
  refine mj_C.of rfl rfl rfl ?_
  refine mj_b0 40 rfl ?_
  refine mj_cS rfl rfl rfl rfl (m_in32 x (nI 1) (nI 16) (by decide) (by decide)) ?_
  refine mj_b0 40 rfl ?_
  refine mj_brf (fun z => vB_0.mp z h1) ?_
  refine mj_b0 40 rfl ?_
  refine mj_brf (by rw [bd_cl h]; exact h3) ?_
  refine mj_b0 40 rfl ?_
  refine mj_cS rfl rfl rfl rfl (m_in32 y (nI 1) (nI 4) (by decide) (by decide)) ?_
  refine mj_b0 40 rfl ?_
  refine mj_brf (fun z => vB_0.mp z h4) ?_
  refine mj_b0 40 rfl ?_
  exact mj_end rfl rfl (Or.inr rfl) ⟨rfl, rfl⟩
theorem m_some_f {b : Nat} {x y : Int32} (h : Bd b g) (hc : ¬ CTb b x y) : mj_C (d + 2) nX9_isSome [.ref 35, .int x, .int y] (fbP P (mdZ U s g w m t c v a)) (some (.int (nI 0))) (fbP P (mdZ U s g w m t c v a)) := by
  have fin : mj_R (mj_C (d + 1)) 9 false (some .boolean) iX9_isSome (36, [some (.ref 35), some (.int x), some (.int y)], [], (fbP P (mdZ U s g w m t c v a))) (fun r2 h2 => r2 = some (.int (nI 0)) ∧ h2 = (fbP P (mdZ U s g w m t c v a))) := by
    refine mj_b0 40 rfl ?_
    exact mj_end rfl rfl (Or.inl rfl) ⟨rfl, rfl⟩
  refine mj_C.of rfl rfl rfl ?_
  refine mj_b0 40 rfl ?_
  refine mj_cS rfl rfl rfl rfl (m_in32 x (nI 1) (nI 16) (by decide) (by decide)) ?_
  refine mj_b0 40 rfl ?_
  by_cases h1 : ¬ x < nI 1 ∧ ¬ nI 16 < x
  · refine mj_brf (fun z => vB_0.mp z h1) ?_
    refine mj_b0 40 rfl ?_
    rw [bd_cl h]
    refine mj_br (fun h3 => ?_) (fun h3 => ?_)
    · exact fin
    refine mj_b0 40 rfl ?_
    refine mj_cS rfl rfl rfl rfl (m_in32 y (nI 1) (nI 4) (by decide) (by decide)) ?_
    refine mj_b0 40 rfl ?_
    refine mj_brt (vB_0.mpr (fun h4 => hc ⟨h1, h3, h4⟩)) ?_
    exact fin
  · refine mj_brt (vB_0.mpr h1) ?_
    exact fin
end SKm
section SKs
variable {d : Nat}
/-- promise 23 -/
theorem s_coloured (x y : Int32) : Sim (d + 21) nX8_coloured nX9_coloured [.int x, .int y] := by
  refine Sim.board (fun b hb => ?_)
  by_cases q : CTb b x y
  · obtain ⟨mm, k, rfl, rfl, m1, m2, m3, k1, k2⟩ := q.of hb
    refine ⟨nI (fc b k mm 0 (fun _ => 0)), fun sc F S G Y M T C V A Z h hy => ?_, fun P U s g w m t c v a h => ?_⟩
    · obtain ⟨C1, E, H⟩ := C
      obtain ⟨E', H', hE, hH, kp⟩ := x_prepare (sc := sc) (F := F) (S := S) (Y := Y) (M := M) (T := T) (C1 := C1) (V := V) (A := A) (Z := Z) (E := E) (H := H) (d := d + 17) hb h m2 m3
      have kk := x_countFrom (sc := sc) (F := F) (S := S) (G := G) (Y := Y) (M := M) (T := T) (C1 := C1) (V := V) (A := A) (Z := Z) (d := d + (16 - mm)) hE k1 k2 m2 mm 0 (fun _ => 0) 0 H' (by omega) hH (by omega)
      rw [show d + (16 - mm) + 3 + mm = d + 19 by omega, ct_eq k2 mm 0 _ 0 (by omega) (fun i hi => absurd hi (by omega))] at kk
      refine ⟨Y, (E', H'), hy, ?_⟩
      have k3 : mj_C (d + 20) nX1_countRows [.ref 26, .int (nI mm), .int (nI k)] (fbH sc F S G Y M T (C1, E, H) V A Z) (some (.int (nI (fc b k mm 0 (fun _ => 0))))) (fbH sc F S G Y M T (C1, E', H') V A Z) := by
        refine mj_C.of rfl rfl rfl ?_
        refine mj_b0 40 rfl ?_
        refine mj_cV rfl rfl rfl rfl rfl rfl (kp) ?_
        refine mj_b0 40 rfl ?_
        refine mj_cS rfl rfl rfl rfl (kk) ?_
        exact mj_end rfl rfl trivial ⟨rfl, rfl⟩
      refine mj_C.of rfl rfl rfl ?_
      refine mj_b0 40 rfl ?_
      refine mj_cV rfl rfl rfl rfl rfl rfl (c_count_t h q) ?_
      refine mj_b0 40 rfl ?_
      refine mj_brf (show ¬ nI 1 = 0 by decide) ?_
      refine mj_b0 40 rfl ?_
      refine mj_cV rfl rfl rfl rfl rfl rfl (k3) ?_
      refine mj_b0 40 rfl ?_
      exact mj_end rfl rfl trivial ⟨rfl, rfl⟩
    · obtain ⟨c1, tr, fi⟩ := c
      obtain ⟨tr', fi', -, kk⟩ := x_colourings (P := P) (U := (nI 0, U.2)) (s := s) (w := w) (m := m) (t := t) (c1 := c1) (v := v) (a := a) (tr := tr) (fi := fi) (d := d + 19) hb h k1 k2 m1 m2 m3 (fun _ => 0)
      refine ⟨w, (tr', fi'), ?_⟩
      refine mj_C.of rfl rfl rfl ?_
      refine mj_b0 40 rfl ?_
      refine mj_hq (h' := fbP P (mdZ (nI 0, U.2) s g w m t (c1, tr, fi) v a)) rfl ?_
      refine mj_cV rfl rfl rfl rfl rfl rfl (m_some_t h q) ?_
      refine mj_b0 40 rfl ?_
      refine mj_brf (show ¬ nI 1 = 0 by decide) ?_
      refine mj_b0 40 rfl ?_
      refine mj_cV rfl rfl rfl rfl rfl rfl (kk) ?_
      refine mj_b0 40 rfl ?_
      exact mj_end rfl rfl trivial ⟨rfl, rfl⟩
  · refine ⟨BD, fun sc F S G Y M T C V A Z h hy => ⟨Y, C.2, hy, ?_⟩, fun P U s g w m t c v a h => ⟨w, c.2, ?_⟩⟩
    · refine mj_C.of rfl rfl rfl ?_
      refine mj_b0 40 rfl ?_
      refine mj_cV rfl rfl rfl rfl rfl rfl (c_count_f h q) ?_
      refine mj_b0 40 rfl ?_
      refine mj_brt (show nI 0 = 0 by decide) ?_
      refine mj_b0 40 rfl ?_
      exact mj_end rfl rfl trivial ⟨rfl, rfl⟩
    · refine mj_C.of rfl rfl rfl ?_
      refine mj_b0 40 rfl ?_
      refine mj_hq (h' := (fbP P (mdZ (nI 0, U.2) s g w m t c v a))) rfl ?_
      refine mj_cV rfl rfl rfl rfl rfl rfl (m_some_f h q) ?_
      refine mj_b0 40 rfl ?_
      refine mj_brt (show nI 0 = 0 by decide) ?_
      refine mj_b0 40 rfl ?_
      exact mj_end rfl rfl trivial ⟨rfl, rfl⟩
/-- promise 24 -/
theorem s_found (x y n : Int32) : Sim (d + 21) nX8_found nX9_found [.int x, .int y, .int n] := by
  refine Sim.board (fun b hb => ?_)
  by_cases q : CTb b x y
  · obtain ⟨mm, k, rfl, rfl, m1, m2, m3, k1, k2⟩ := q.of hb
    have em : (nI mm - nI 1).toInt64 = (nI (mm - 1)).toInt64 := by rw [pk_sub (by omega)]
    rcases pk_ix n (n := mm) (by omega) with q2 | q2 | ⟨i, hi, rfl⟩
    · refine ⟨BD, fun sc F S G Y M T C V A Z h hy => ⟨Y, C.2, hy, ?_⟩, fun P U s g w m t c v a h => ⟨w, c.2, ?_⟩⟩
      · refine mj_C.of rfl rfl rfl ?_
        refine mj_b0 40 rfl ?_
        refine mj_cV rfl rfl rfl rfl rfl rfl (c_count_t h q) ?_
        refine mj_b0 40 rfl ?_
        refine mj_brf (show ¬ nI 1 = 0 by decide) ?_
        refine mj_b0 40 rfl ?_
        refine mj_brt (q2) ?_
        refine mj_b0 40 rfl ?_
        exact mj_end rfl rfl trivial ⟨rfl, rfl⟩
      · refine mj_C.of rfl rfl rfl ?_
        refine mj_b0 40 rfl ?_
        refine mj_hq (h' := (fbP P (mdZ (nI 0, U.2) s g w m t c v a))) rfl ?_
        refine mj_cV rfl rfl rfl rfl rfl rfl (m_some_t h q) ?_
        refine mj_b0 40 rfl ?_
        refine mj_brf (show ¬ nI 1 = 0 by decide) ?_
        refine mj_b0 40 rfl ?_
        refine mj_cS rfl rfl rfl rfl (m_in32 n 0 (nI (mm - 1)) (by decide) em) ?_
        refine mj_b0 40 rfl ?_
        refine mj_brf (fun z => z (vB_0.mpr (fun z2 => z2.1 q2))) ?_
        refine mj_b0 40 rfl ?_
        exact mj_end rfl rfl trivial ⟨rfl, rfl⟩
    · have q3 : ¬ (¬ n < 0 ∧ ¬ nI (mm - 1) < n) := fun z => z.2 ((le_pred (by omega) (by omega) n).mpr q2)
      refine ⟨BD, fun sc F S G Y M T C V A Z h hy => ⟨Y, C.2, hy, ?_⟩, fun P U s g w m t c v a h => ⟨w, c.2, ?_⟩⟩
      · refine mj_C.of rfl rfl rfl ?_
        refine mj_b0 40 rfl ?_
        refine mj_cV rfl rfl rfl rfl rfl rfl (c_count_t h q) ?_
        refine mj_b0 40 rfl ?_
        refine mj_brf (show ¬ nI 1 = 0 by decide) ?_
        refine mj_b0 40 rfl ?_
        refine mj_br (fun z => ?_) (fun z => ?_)
        · refine mj_b0 40 rfl ?_
          exact mj_end rfl rfl trivial ⟨rfl, rfl⟩
        · refine mj_b0 40 rfl ?_
          refine mj_brf (fun z2 => by
            have z3 : n < nI mm := z2
            rw [Int32.lt_iff_toInt_lt] at z3
            rw [Int32.le_iff_toInt_le] at q2
            omega) ?_
          refine mj_b0 40 rfl ?_
          exact mj_end rfl rfl trivial ⟨rfl, rfl⟩
      · refine mj_C.of rfl rfl rfl ?_
        refine mj_b0 40 rfl ?_
        refine mj_hq (h' := (fbP P (mdZ (nI 0, U.2) s g w m t c v a))) rfl ?_
        refine mj_cV rfl rfl rfl rfl rfl rfl (m_some_t h q) ?_
        refine mj_b0 40 rfl ?_
        refine mj_brf (show ¬ nI 1 = 0 by decide) ?_
        refine mj_b0 40 rfl ?_
        refine mj_cS rfl rfl rfl rfl (m_in32 n 0 (nI (mm - 1)) (by decide) em) ?_
        refine mj_b0 40 rfl ?_
        refine mj_brf (fun z => z (vB_0.mpr q3)) ?_
        refine mj_b0 40 rfl ?_
        exact mj_end rfl rfl trivial ⟨rfl, rfl⟩
    · have e1 : (nI i).toNatClampNeg = i := nI_clamp (by omega)
      have ii : vp_in (nI i) 16 := nI_ix (show i < 16 by omega) (by omega)
      have hs := fs_some (b := b) (k := k) mm 0 (fun _ => 0)
      have htop := fc_top (r := fun _ => 0) hb k2 m1 m2 m3
      refine ⟨match fs b k mm 0 (fun _ => 0) with
        | some x => nI (x i)
        | none => NO, fun sc F S G Y M T C V A Z h hy => ?_, fun P U s g w m t c v a h => ?_⟩
      · obtain ⟨C1, E, H⟩ := C
        obtain ⟨E', H', hE, hH, kp⟩ := x_prepare (sc := sc) (F := F) (S := S) (Y := Y) (M := M) (T := T) (C1 := C1) (V := V) (A := A) (Z := Z) (E := E) (H := H) (d := d + 17) hb h m2 m3
        obtain ⟨H2, -, kf, kk⟩ := x_fillFrom (sc := sc) (F := F) (S := S) (G := G) (Y := Y) (M := M) (T := T) (C1 := C1) (V := V) (A := A) (Z := Z) (d := d + (16 - mm)) hE k1 k2 m2 mm 0 (fun _ => 0) H' (by omega) hH
        rw [show d + (16 - mm) + 3 + mm = d + 19 by omega] at kk
        refine ⟨Y, (E', H2), hy, ?_⟩
        have k3 : mj_C (d + 20) nX1_colourInFirstRow [.ref 26, .int (nI mm), .int (nI k), .int (nI i)] (fbH sc F S G Y M T (C1, E, H) V A Z) (some (.int (match fs b k mm 0 (fun _ => 0) with
        | some x => nI (x i)
        | none => NO))) (fbH sc F S G Y M T (C1, E', H2) V A Z) := by
          refine mj_C.of rfl rfl rfl ?_
          refine mj_b0 40 rfl ?_
          refine mj_cV rfl rfl rfl rfl rfl rfl (kp) ?_
          refine mj_b0 40 rfl ?_
          refine mj_cS rfl rfl rfl rfl (kk) ?_
          refine mj_b0 40 rfl ?_
          cases hf : fs b k mm 0 (fun _ => 0) with
          | none =>
            refine mj_brf (show ¬ ¬ bI false = 0 by decide) ?_
            refine mj_b0 40 rfl ?_
            exact mj_end rfl rfl trivial ⟨rfl, rfl⟩
          | some x =>
            refine mj_brt (show ¬ bI true = 0 by decide) ?_
            refine mj_b0 2 rfl ?_
            have hx := fs_lt mm 0 (fun _ => 0) (fun i hi => absurd hi (Nat.not_lt_zero i)) hf i (by omega)
            exact l_colour m2 hi (kf x hf) (by omega) (x i) 0 (by omega)
        refine mj_C.of rfl rfl rfl ?_
        refine mj_b0 40 rfl ?_
        refine mj_cV rfl rfl rfl rfl rfl rfl (c_count_t h q) ?_
        refine mj_b0 40 rfl ?_
        refine mj_brf (show ¬ nI 1 = 0 by decide) ?_
        refine mj_b0 40 rfl ?_
        refine mj_brf (nI_pos (by omega)) ?_
        refine mj_b0 40 rfl ?_
        refine mj_brt (nI_lt hi (by omega)) ?_
        refine mj_b0 40 rfl ?_
        refine mj_cV rfl rfl rfl rfl rfl rfl (k3) ?_
        exact mj_end rfl rfl trivial ⟨rfl, rfl⟩
      · obtain ⟨c1, tr, fi⟩ := c
        obtain ⟨tr', fi', kf, kk⟩ := x_colourings (P := P) (U := (nI 0, U.2)) (s := s) (w := w) (m := m) (t := t) (c1 := c1) (v := v) (a := a) (tr := tr) (fi := fi) (d := d + 19) hb h k1 k2 m1 m2 m3 (fun _ => 0)
        refine ⟨w, (tr', fi'), ?_⟩
        refine mj_C.of rfl rfl rfl ?_
        refine mj_b0 40 rfl ?_
        refine mj_hq (h' := fbP P (mdZ (nI 0, U.2) s g w m t (c1, tr, fi) v a)) rfl ?_
        refine mj_cV rfl rfl rfl rfl rfl rfl (m_some_t h q) ?_
        refine mj_b0 40 rfl ?_
        refine mj_brf (show ¬ nI 1 = 0 by decide) ?_
        refine mj_b0 40 rfl ?_
        refine mj_cS rfl rfl rfl rfl (m_in32 (nI i) 0 (nI (mm - 1)) (by decide) em) ?_
        refine mj_b0 40 rfl ?_
        refine mj_brt (fun z => vB_0.mp z ⟨nI_pos (by omega), nI_nlt (by omega) (by omega)⟩) ?_
        refine mj_b0 40 rfl ?_
        refine mj_cV rfl rfl rfl rfl rfl rfl (kk) ?_
        refine mj_b0 40 rfl ?_
        cases hf : fs b k mm 0 (fun _ => 0) with
        | none =>
          rw [hf] at hs
          have hz : fc b k mm 0 (fun _ => 0) = 0 := by
            have hz2 : ¬ 0 < fc b k mm 0 (fun _ => 0) := fun z => by have z2 := hs.mpr z; cases z2
            omega
          refine mj_brf (by rw [hz]; exact (show ¬ ¬ nI 0 = 0 by decide)) ?_
          refine mj_b0 40 rfl ?_
          exact mj_end rfl rfl trivial ⟨rfl, rfl⟩
        | some x =>
          rw [hf] at hs
          have hz : 0 < fc b k mm 0 (fun _ => 0) := hs.mp rfl
          refine mj_brt (nI_ne0 hz (by omega)) ?_
          refine mj_b1 40 rfl (ii) ?_
          rw [e1]
          exact mj_end rfl rfl trivial ⟨by rw [show (c1, tr', fi').2.2 i = nI (x i) from kf x hf i hi], rfl⟩
  · refine ⟨BD, fun sc F S G Y M T C V A Z h hy => ⟨Y, C.2, hy, ?_⟩, fun P U s g w m t c v a h => ⟨w, c.2, ?_⟩⟩
    · refine mj_C.of rfl rfl rfl ?_
      refine mj_b0 40 rfl ?_
      refine mj_cV rfl rfl rfl rfl rfl rfl (c_count_f h q) ?_
      refine mj_b0 40 rfl ?_
      refine mj_brt (show nI 0 = 0 by decide) ?_
      refine mj_b0 40 rfl ?_
      exact mj_end rfl rfl trivial ⟨rfl, rfl⟩
    · refine mj_C.of rfl rfl rfl ?_
      refine mj_b0 40 rfl ?_
      refine mj_hq (h' := (fbP P (mdZ (nI 0, U.2) s g w m t c v a))) rfl ?_
      refine mj_cV rfl rfl rfl rfl rfl rfl (m_some_f h q) ?_
      refine mj_b0 40 rfl ?_
      refine mj_brt (show nI 0 = 0 by decide) ?_
      refine mj_b0 40 rfl ?_
      exact mj_end rfl rfl trivial ⟨rfl, rfl⟩
end SKs
