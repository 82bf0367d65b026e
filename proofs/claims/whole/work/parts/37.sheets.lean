/-! Sheets: the class -/
section SH
variable {sc : mj_E} {F : Int32 × Int32} {S : fA × fA × fA} {G : fG} {Y : fY} {M : fM} {T : fT} {C : fC} {V : fV} {A : fA × Int32} {Z : mj_H} {d : Nat}
theorem c_oneLane {k l : Nat} (hk : k < 8) (hl : l < 8) : mj_C (d + 1) nX5_areOfOneLane [.ref 2, .int (nI k), .int (nI l)] (fbH sc F S G Y M T C V A Z) (some (.int (vB (S.2.1 k = S.2.1 l)))) (fbH sc F S G Y M T C V A Z) := by
  have e1 : (nI k).toNatClampNeg = k := nI_clamp (by omega)
  have e2 : (nI l).toNatClampNeg = l := nI_clamp (by omega)
  refine mj_C.of rfl rfl rfl ?_
  refine mj_b1 40 rfl ⟨nI_ix hk (by omega), nI_ix hl (by omega)⟩ ?_
  rw [e1, e2]
  refine mj_br (fun h1 => ?_) (fun h1 => ?_)
  · refine mj_b0 40 rfl ?_
    exact mj_end rfl rfl (Or.inl rfl) ⟨by rw [vB_f (show ¬ S.2.1 k = S.2.1 l from h1)]; rfl, rfl⟩
  · refine mj_b0 40 rfl ?_
    exact mj_end rfl rfl (Or.inr rfl) ⟨by rw [vB_t (show S.2.1 k = S.2.1 l from Decidable.not_not.mp h1)]; rfl, rfl⟩
theorem c_holds {k : Nat} (hk : k < 8) (i n : Int32) : mj_C (d + 1) nX5_holds [.ref 2, .int (nI k), .int i, .int n] (fbH sc F S G Y M T C V A Z) (some (.int (vB (¬ i < 0 ∧ ¬ n < 0 ∧ ¬ S.2.2 k < i ∧ ¬ S.2.2 k - i < n)))) (fbH sc F S G Y M T C V A Z) := by
  have e1 : (nI k).toNatClampNeg = k := nI_clamp (by omega)
  refine mj_C.of rfl rfl rfl ?_
  refine mj_b0 40 rfl ?_
  refine mj_br (fun h1 => ?_) (fun h1 => ?_)
  · refine mj_b0 40 rfl ?_
    exact mj_end rfl rfl (Or.inl rfl) ⟨by rw [vB_f (fun q => q.1 h1)]; rfl, rfl⟩
  refine mj_b0 40 rfl ?_
  refine mj_br (fun h2 => ?_) (fun h2 => ?_)
  · refine mj_b0 40 rfl ?_
    exact mj_end rfl rfl (Or.inl rfl) ⟨by rw [vB_f (fun q => q.2.1 h2)]; rfl, rfl⟩
  refine mj_b1 40 rfl (nI_ix hk (by omega)) ?_
  rw [e1]
  refine mj_br (fun h3 => ?_) (fun h3 => ?_)
  · refine mj_b0 40 rfl ?_
    exact mj_end rfl rfl (Or.inl rfl) ⟨by rw [vB_f (fun q => q.2.2.1 h3)]; rfl, rfl⟩
  refine mj_b1 40 rfl (nI_ix hk (by omega)) ?_
  rw [e1]
  refine mj_br (fun h4 => ?_) (fun h4 => ?_)
  · refine mj_b0 40 rfl ?_
    exact mj_end rfl rfl (Or.inl rfl) ⟨by rw [vB_f (fun q => q.2.2.2 h4)]; rfl, rfl⟩
  · refine mj_b0 40 rfl ?_
    exact mj_end rfl rfl (Or.inr rfl) ⟨by rw [vB_t ⟨h1, h2, h3, h4⟩]; rfl, rfl⟩
theorem c_takeAway {it ln sz : fA} {k : Nat} (hk : k < 8) : mj_C (d + 1) nX5_takeAway [.ref 2, .int (nI k)] (fbH sc F (it, ln, sz) G Y M T C V A Z) (some (.int (sz k))) (fbH sc F (it, upd ln k (-(nI 1)), sz) G Y M T C V A Z) := by
  have e1 : (nI k).toNatClampNeg = k := nI_clamp (by omega)
  refine mj_C.of rfl rfl rfl ?_
  refine mj_b1 40 rfl ⟨nI_ix hk (by omega), nI_ix hk (by omega)⟩ ?_
  refine mj_end rfl rfl trivial ⟨by rw [e1], ?_⟩
  exact Eq.trans (b := fbH sc F (it, upd ln (nI k).toNatClampNeg (-(nI 1)), sz) G Y M T C V A Z) rfl (by rw [e1])
theorem c_read {it ln sz : fA} {k i : Nat} (hk : k < 8) (hi : i < 60) : mj_C (d + 1) nX5_read [.ref 2, .int (nI k), .int (nI i)] (fbH sc F (it, ln, sz) G Y M T C V A Z) (some (.int (it (k * 60 + i)))) (fbH sc F (it, ln, sz) G Y M T C V A Z) := by
  have e1 : nI k * nI 60 + nI i = nI (k * 60 + i) := by rw [pk_mul, nI_add]
  have e2 : (nI (k * 60 + i)).toNatClampNeg = k * 60 + i := nI_clamp (by omega)
  refine mj_C.of rfl rfl rfl ?_
  refine mj_b1 40 rfl (by show vp_in (nI k * nI 60 + nI i) 480; rw [e1]; exact nI_ix (by omega) (by omega)) ?_
  refine mj_end rfl rfl trivial ⟨?_, rfl⟩
  show some (Value.int (it (nI k * nI 60 + nI i).toNatClampNeg)) = _
  rw [e1, e2]
/-- lay: the first n items are 0 -/
theorem l_lay0 {it ln sz : fA} {k n : Nat} {x : Int32} (hk : k < 8) (hn : n ≤ 60) : ∀ (j i : Nat) (f : fA), j + i = n → mj_R (mj_C d) 5 false none iX5_lay (17, [some (.ref 2), some (.int (nI k)), some (.int x), some (.int (nI n)), some (.int (nI i))], [], fbH sc F (fun q => if k * 60 ≤ q ∧ q < k * 60 + i then nI 0 else it q, ln, sz) G Y M T C V A Z) (fun r h => r = none ∧ h = fbH sc F (fun q => if k * 60 ≤ q ∧ q < k * 60 + n then nI 0 else it q, ln, sz) G Y M T C V A Z)
  | 0, i, f, hj => by
    rw [Nat.zero_add] at hj
    subst hj
    refine mj_b0 40 rfl ?_
    refine mj_brt (nI_le (Nat.le_refl _) (by omega)) ?_
    exact mj_end rfl rfl trivial ⟨rfl, rfl⟩
  | j + 1, i, f, hj => by
    have e1 : nI k * mj_kc 60 + nI i = nI (k * 60 + i) := by
      show nI k * nI 60 + nI i = _
      rw [pk_mul, nI_add]
    have e2 : (nI (k * 60 + i)).toNatClampNeg = k * 60 + i := nI_clamp (by omega)
    refine mj_b0 40 rfl ?_
    refine mj_brf (nI_ge (by omega) (by omega)) ?_
    refine mj_b0 40 rfl ?_
    refine mj_brf (show ¬ nI 60 ≤ nI i from nI_ge (by omega) (by omega)) ?_
    refine mj_b1 9 rfl (by rw [e1]; exact nI_ix (show k * 60 + i < 480 by omega) (by omega)) ?_
    refine mj_hq (h' := fbH sc F (fun q => if k * 60 ≤ q ∧ q < k * 60 + (i + 1) then nI 0 else it q, ln, sz) G Y M T C V A Z) (Eq.trans (b := fbH sc F (upd (fun q => if k * 60 ≤ q ∧ q < k * 60 + i then nI 0 else it q) (nI k * mj_kc 60 + nI i).toNatClampNeg (nI 0), ln, sz) G Y M T C V A Z) rfl (by
      rw [e1, e2]
      congr 2
      funext q
      by_cases e : q = k * 60 + i
      · subst e; rw [pk_us, if_pos (by omega)]
      · rw [pk_un e]
        by_cases l : k * 60 ≤ q ∧ q < k * 60 + i
        · rw [if_pos l, if_pos (by omega)]
        · rw [if_neg l, if_neg (by omega)])) ?_
    refine mj_b0 2 rfl ?_
    have ih := l_lay0 (it := it) (ln := ln) (sz := sz) (x := x) hk hn j (i + 1) f (by omega)
    rw [← nI_add i 1] at ih
    exact ih
theorem c_lay {it ln sz : fA} {k n : Nat} {x : Int32} (hk : k < 8) (hn : n ≤ 60) : mj_C (d + 1) nX5_lay [.ref 2, .int (nI k), .int x, .int (nI n)] (fbH sc F (it, ln, sz) G Y M T C V A Z) none (fbH sc F (fun q => if k * 60 ≤ q ∧ q < k * 60 + n then nI 0 else it q, upd ln k x, upd sz k (nI n)) G Y M T C V A Z) := by
  have e1 : (nI k).toNatClampNeg = k := nI_clamp (by omega)
  refine mj_C.of rfl rfl rfl ?_
  refine mj_b1 12 rfl ⟨nI_ix hk (by omega), nI_ix hk (by omega)⟩ ?_
  have e0 : (fun q => if k * 60 ≤ q ∧ q < k * 60 + 0 then nI 0 else it q) = it := by
    funext q
    exact if_neg (by omega)
  refine mj_hq (h' := fbH sc F (it, upd ln k x, upd sz k (nI n)) G Y M T C V A Z) (Eq.trans (b := fbH sc F (it, upd ln (nI k).toNatClampNeg x, upd sz (nI k).toNatClampNeg (nI n)) G Y M T C V A Z) rfl (by rw [e1])) ?_
  have h := l_lay0 (d := d) (sc := sc) (F := F) (G := G) (Y := Y) (M := M) (T := T) (C := C) (V := V) (A := A) (Z := Z) (it := it) (ln := upd ln k x) (sz := upd sz k (nI n)) (x := x) hk hn n 0 it (by omega)
  rw [e0] at h
  exact h
end SH
