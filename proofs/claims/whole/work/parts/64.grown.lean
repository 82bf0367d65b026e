/-! promises 6 and 10, side by side -/
abbrev gwT : Type := Int64 × Int64 × Int64 × Int64
def gwS (p : Int32) (x : gwT) : gwT :=
  (f_lrem ((p - nI 5).toInt64 * x.1 + (p - nI 6).toInt64 * x.2.1) 1000000007, x.2.2.1,
   f_lrem (f_lrem ((p - nI 5).toInt64 * x.1 + (p - nI 6).toInt64 * x.2.1) 1000000007 + x.2.2.1) 1000000007,
   f_lrem (x.2.2.2 + f_lrem (f_lrem ((p - nI 5).toInt64 * x.1 + (p - nI 6).toInt64 * x.2.1) 1000000007 + x.2.2.1) 1000000007) 1000000007)
def gw (p : Int32) : Nat → gwT
  | 0 => (Int64.ofNat 0, Int64.ofNat 0, Int64.ofNat 1, Int64.ofNat 1)
  | 1 => (p.toInt64, Int64.ofNat 0, f_lrem (p.toInt64 + Int64.ofNat 0) 1000000007, f_lrem (Int64.ofNat 1 + f_lrem (p.toInt64 + Int64.ofNat 0) 1000000007) 1000000007)
  | k + 2 => gwS p (gw p (k + 1))
def gwA (p : Int32) (n : Nat) : Nat → Int32
  | 0 => (gw p n).2.2.1.toInt32
  | 1 => (gw p n).2.1.toInt32
  | 2 => (gw p n).1.toInt32
  | _ => (gw p n).2.2.2.toInt32
section GW
variable {d : Nat} {hh : mj_H}
set_option maxRecDepth 20000 in
theorem c_growth {n k : Nat} {p : Int32} (hn : n ≤ 60) (hk : k ≤ 3) : mj_C (d + 1) nX8_growth [.int p, .int (nI n), .int (nI k)] hh (some (.int (gwA p n k))) hh := by
  refine mj_C.of rfl rfl rfl ?_
  refine mj_b0 10 rfl ?_
  refine mj_itJ (fun j (o : Option Value) => (14, [some (.int p), some (.int (nI n)), some (.int (nI k)), some (.long (gw p j).1), none, some (.long (gw p j).2.1), none, some (.long (gw p j).2.2.1), none, some (.long (gw p j).2.2.2), none, some (.int (nI (j + 1))), o, none], [], hh)) n (fun j o hj ih => ?_) (fun o => ?_) none
  · cases j with
    | zero =>
      have ih := ih (some (.long p.toInt64))
      rw [← nI_add (0 + 1) 1] at ih
      refine mj_b0 40 rfl ?_
      refine mj_brf (nI_nlt (by omega) (by omega)) ?_
      refine mj_b0 40 rfl ?_
      refine mj_brf (show ¬ ¬ nI (0 + 1) = nI 1 by decide) ?_
      refine mj_b0 40 rfl ?_
      refine mj_brf (show ¬ ¬ nI (0 + 1) = nI 1 by decide) ?_
      refine mj_b1 19 rfl (show (¬ (1000000007 : Int64) = 0) ∧ (¬ (1000000007 : Int64) = 0) by decide) ?_
      exact ih
    | succ j =>
      have ih := ih (some (.long (gwS p (gw p (j + 1))).1))
      rw [← nI_add (j + 1 + 1) 1] at ih
      have e : ¬ nI (j + 1 + 1) = nI 1 := fun z => by have := (nI_eq (by omega) (by omega)).mp z; omega
      refine mj_b0 40 rfl ?_
      refine mj_brf (nI_nlt (by omega) (by omega)) ?_
      refine mj_b0 40 rfl ?_
      refine mj_brt (e) ?_
      refine mj_b1 40 rfl (show ¬ (1000000007 : Int64) = 0 by decide) ?_
      refine mj_brt (e) ?_
      refine mj_b1 18 rfl (show (¬ (1000000007 : Int64) = 0) ∧ (¬ (1000000007 : Int64) = 0) by decide) ?_
      exact ih
  · refine mj_b0 40 rfl ?_
    refine mj_brt (nI_lt (by omega) (by omega)) ?_
    refine mj_b0 40 rfl ?_
    rcases (show k = 0 ∨ k = 1 ∨ k = 2 ∨ k = 3 by omega) with rfl | rfl | rfl | rfl
    · refine mj_swt (t := 124) rfl (Or.inr ⟨by decide, by decide, 27, rfl, rfl⟩) ?_
      refine mj_b0 40 rfl ?_
      exact mj_end rfl rfl trivial ⟨rfl, rfl⟩
    · refine mj_swt (t := 128) rfl (Or.inr ⟨by decide, by decide, 31, rfl, rfl⟩) ?_
      refine mj_b0 40 rfl ?_
      exact mj_end rfl rfl trivial ⟨rfl, rfl⟩
    · refine mj_swt (t := 132) rfl (Or.inr ⟨by decide, by decide, 35, rfl, rfl⟩) ?_
      refine mj_b0 40 rfl ?_
      exact mj_end rfl rfl trivial ⟨rfl, rfl⟩
    · refine mj_swt (t := 135) rfl (Or.inl ⟨by decide, rfl⟩) ?_
      refine mj_b0 40 rfl ?_
      exact mj_end rfl rfl trivial ⟨rfl, rfl⟩
theorem c_isSideNumber (x : Int32) : mj_C (d + 1) nX8_isSideNumber [.int x] hh (some (.int (vB (¬ x < nI 6 ∧ ¬ nI 10 < x)))) hh := by
  refine mj_C.of rfl rfl rfl ?_
  refine mj_b0 40 rfl ?_
  refine mj_br (fun h1 => ?_) (fun h1 => ?_)
  · refine mj_b0 40 rfl ?_
    exact mj_end rfl rfl (Or.inl rfl) ⟨by rw [vB_f (fun q => q.1 h1)]; rfl, rfl⟩
  · refine mj_b0 40 rfl ?_
    refine mj_br (fun h2 => ?_) (fun h2 => ?_)
    · refine mj_b0 40 rfl ?_
      exact mj_end rfl rfl (Or.inl rfl) ⟨by rw [vB_f (fun q => q.2 h2)]; rfl, rfl⟩
    · refine mj_b0 40 rfl ?_
      exact mj_end rfl rfl (Or.inr rfl) ⟨by rw [vB_t ⟨h1, h2⟩]; rfl, rfl⟩
end GW
section GWm
variable {P : fP} {U : fU} {s : fA × fA × fA} {g : fG} {w : fW} {m : fM} {t : fR} {c : fA × fA × fA} {v : fA × fA} {a : fA × Int32} {d : Nat}
set_option maxRecDepth 20000 in
theorem m_grown {n k : Nat} {p : Int32} (hp : ¬ p < nI 6 ∧ ¬ nI 10 < p) (hn : n ≤ 60) (hk : k ≤ 3) : mj_C (d + 2) nX9_grown [.ref 35, .int p, .int (nI n), .int (nI k)] (fbP P (mdZ U s g w m t c v a)) (some (.int (gwA p n k))) (fbP P (mdZ (nI 0, U.2) s g w m t c v a)) := by
  refine mj_C.of rfl rfl rfl ?_
  refine mj_b0 40 rfl ?_
  refine mj_hq (h' := (fbP P (mdZ (nI 0, U.2) s g w m t c v a))) rfl ?_
  refine mj_cS rfl rfl rfl rfl (m_in32 p (nI 6) (nI 10) (by decide) (by decide)) ?_
  refine mj_b0 40 rfl ?_
  refine mj_brf (fun z => vB_0.mp z hp) ?_
  refine mj_b0 40 rfl ?_
  refine mj_cS rfl rfl rfl rfl (m_in32 (nI n) 0 (nI 60) (by decide) (by decide)) ?_
  refine mj_b0 40 rfl ?_
  refine mj_brf (fun z => vB_0.mp z ⟨nI_pos (by omega), nI_nlt (by omega) (by omega)⟩) ?_
  refine mj_b0 40 rfl ?_
  refine mj_cS rfl rfl rfl rfl (m_in32 (nI k) 0 (nI 3) (by decide) (by decide)) ?_
  refine mj_b0 40 rfl ?_
  refine mj_brt (fun z => vB_0.mp z ⟨nI_pos (by omega), nI_nlt (by omega) (by omega)⟩) ?_
  refine mj_b0 10 rfl ?_
  refine mj_itJ (fun j (o : Option Value) => (61, [some (.ref 35), some (.int p), some (.int (nI n)), some (.int (nI k)), some (.long (gw p j).1), none, some (.long (gw p j).2.1), none, some (.long (gw p j).2.2.1), none, some (.long (gw p j).2.2.2), none, some (.int (nI (j + 1))), o, none], [], (fbP P (mdZ (nI 0, U.2) s g w m t c v a)))) n (fun j o hj ih => ?_) (fun o => ?_) none
  · cases j with
    | zero =>
      have ih := ih (some (.long p.toInt64))
      rw [← nI_add (0 + 1) 1] at ih
      refine mj_b0 40 rfl ?_
      refine mj_brf (nI_nlt (by omega) (by omega)) ?_
      refine mj_b0 40 rfl ?_
      refine mj_brf (show ¬ ¬ nI (0 + 1) = nI 1 by decide) ?_
      refine mj_b0 40 rfl ?_
      refine mj_brf (show ¬ ¬ nI (0 + 1) = nI 1 by decide) ?_
      refine mj_b1 19 rfl (show (¬ (1000000007 : Int64) = 0) ∧ (¬ (1000000007 : Int64) = 0) by decide) ?_
      exact ih
    | succ j =>
      have ih := ih (some (.long (gwS p (gw p (j + 1))).1))
      rw [← nI_add (j + 1 + 1) 1] at ih
      have e : ¬ nI (j + 1 + 1) = nI 1 := fun z => by have := (nI_eq (by omega) (by omega)).mp z; omega
      refine mj_b0 40 rfl ?_
      refine mj_brf (nI_nlt (by omega) (by omega)) ?_
      refine mj_b0 40 rfl ?_
      refine mj_brt (e) ?_
      refine mj_b0 13 rfl ?_
      refine mj_sq (S' := (94, [some (.ref 35), some (.int p), some (.int (nI n)), some (.int (nI k)), some (.long (gw p (j + 1)).1), none, some (.long (gw p (j + 1)).2.1), none, some (.long (gw p (j + 1)).2.2.1), none, some (.long (gw p (j + 1)).2.2.2), none, some (.int (nI (j + 1 + 1))), o, none], [.long ((p - nI 5).toInt64 * (gw p (j + 1)).1 + (p - nI 6).toInt64 * (gw p (j + 1)).2.1)], (fbP P (mdZ (nI 0, U.2) s g w m t c v a)))) (by rw [Int64.mul_comm (p - nI 5).toInt64, Int64.mul_comm (p - nI 6).toInt64] <;> rfl) ?_
      refine mj_b1 40 rfl (show ¬ (1000000007 : Int64) = 0 by decide) ?_
      refine mj_brt (e) ?_
      refine mj_b1 18 rfl (show (¬ (1000000007 : Int64) = 0) ∧ (¬ (1000000007 : Int64) = 0) by decide) ?_
      exact ih
  · refine mj_b0 40 rfl ?_
    refine mj_brt (nI_lt (by omega) (by omega)) ?_
    refine mj_b0 40 rfl ?_
    rcases (show k = 0 ∨ k = 1 ∨ k = 2 ∨ k = 3 by omega) with rfl | rfl | rfl | rfl
    · refine mj_brf (show ¬ ¬ nI 0 = 0 by decide) ?_
      refine mj_b0 40 rfl ?_
      exact mj_end rfl rfl trivial ⟨rfl, rfl⟩
    · refine mj_brt (show ¬ nI 1 = 0 by decide) ?_
      refine mj_b0 40 rfl ?_
      refine mj_brf (show ¬ ¬ nI 1 = nI 1 by decide) ?_
      refine mj_b0 40 rfl ?_
      exact mj_end rfl rfl trivial ⟨rfl, rfl⟩
    · refine mj_brt (show ¬ nI 2 = 0 by decide) ?_
      refine mj_b0 40 rfl ?_
      refine mj_brt (show ¬ nI 2 = nI 1 by decide) ?_
      refine mj_b0 40 rfl ?_
      refine mj_brf (show ¬ ¬ nI 2 = nI 2 by decide) ?_
      refine mj_b0 40 rfl ?_
      exact mj_end rfl rfl trivial ⟨rfl, rfl⟩
    · refine mj_brt (show ¬ nI 3 = 0 by decide) ?_
      refine mj_b0 40 rfl ?_
      refine mj_brt (show ¬ nI 3 = nI 1 by decide) ?_
      refine mj_b0 40 rfl ?_
      refine mj_brt (show ¬ nI 3 = nI 2 by decide) ?_
      refine mj_b0 40 rfl ?_
      exact mj_end rfl rfl trivial ⟨rfl, rfl⟩
end GWm
section GWS
variable {d : Nat}
/-- promise 10 -/
theorem s_grown (x n y : Int32) : Sim (d + 2) nX8_grown nX9_grown [.int x, .int n, .int y] := by
  refine Sim.board0 (fun b hb => ?_)
  by_cases q : (¬ x < nI 6 ∧ ¬ nI 10 < x) ∧ (¬ n < 0 ∧ ¬ nI 60 < n) ∧ (¬ y < 0 ∧ ¬ nI 3 < y)
  · obtain ⟨q1, q2, q3⟩ := q
    rcases ixn n (n := 61) (by omega) with ⟨-, z⟩ | ⟨j, hj, rfl⟩
    · exact absurd q2 (nin_no (by omega) z)
    rcases ixn y (n := 4) (by omega) with ⟨-, z⟩ | ⟨k, hk, rfl⟩
    · exact absurd q3 (nin_no (by omega) z)
    refine ⟨gwA x j k, fun sc F S G Y M T C V A Z h => ?_, fun P U s g w m t c v a h => m_grown q1 (by omega) (by omega)⟩
    refine mj_C.of rfl rfl rfl ?_
    refine mj_b0 40 rfl ?_
    refine mj_cS rfl rfl rfl rfl (c_isSideNumber x) ?_
    refine mj_b0 40 rfl ?_
    refine mj_brf (fun z => vB_0.mp z q1) ?_
    refine mj_b0 40 rfl ?_
    refine mj_brf (q2.1) ?_
    refine mj_b0 40 rfl ?_
    refine mj_brf (q2.2) ?_
    refine mj_b0 40 rfl ?_
    refine mj_brf (q3.1) ?_
    refine mj_b0 40 rfl ?_
    refine mj_brt (show nI k ≤ nI 3 from nI_le (by omega) (by omega)) ?_
    refine mj_b0 40 rfl ?_
    refine mj_cS rfl rfl rfl rfl (c_growth (show j ≤ 60 by omega) (show k ≤ 3 by omega)) ?_
    exact mj_end rfl rfl trivial ⟨rfl, rfl⟩
  · refine ⟨BD, fun sc F S G Y M T C V A Z h => ?_, fun P U s g w m t c v a h => ?_⟩
    · refine mj_C.of rfl rfl rfl ?_
      refine mj_b0 40 rfl ?_
      refine mj_cS rfl rfl rfl rfl (c_isSideNumber x) ?_
      refine mj_b0 40 rfl ?_
      by_cases q1 : ¬ x < nI 6 ∧ ¬ nI 10 < x
      · refine mj_brf (fun z => vB_0.mp z q1) ?_
        refine mj_b0 40 rfl ?_
        refine mj_br (fun q2 => ?_) (fun q2 => ?_)
        · refine mj_b0 40 rfl ?_
          exact mj_end rfl rfl trivial ⟨rfl, rfl⟩
        · refine mj_b0 40 rfl ?_
          refine mj_br (fun q3 => ?_) (fun q3 => ?_)
          · refine mj_b0 40 rfl ?_
            exact mj_end rfl rfl trivial ⟨rfl, rfl⟩
          · refine mj_b0 40 rfl ?_
            refine mj_br (fun q4 => ?_) (fun q4 => ?_)
            · refine mj_b0 40 rfl ?_
              exact mj_end rfl rfl trivial ⟨rfl, rfl⟩
            · refine mj_b0 40 rfl ?_
              refine mj_br (fun q5 => ?_) (fun q5 => ?_)
              · exact absurd ⟨q1, ⟨q2, q3⟩, q4, fun z => by
                  have q6 : y ≤ nI 3 := q5
                  rw [Int32.le_iff_toInt_le] at q6
                  rw [Int32.lt_iff_toInt_lt] at z
                  omega⟩ q
              · refine mj_b0 40 rfl ?_
                exact mj_end rfl rfl trivial ⟨rfl, rfl⟩
      · refine mj_brt (vB_0.mpr q1) ?_
        refine mj_b0 40 rfl ?_
        exact mj_end rfl rfl trivial ⟨rfl, rfl⟩
    · refine mj_C.of rfl rfl rfl ?_
      refine mj_b0 40 rfl ?_
      refine mj_hq (h' := (fbP P (mdZ (nI 0, U.2) s g w m t c v a))) rfl ?_
      refine mj_cS rfl rfl rfl rfl (m_in32 x (nI 6) (nI 10) (by decide) (by decide)) ?_
      refine mj_b0 40 rfl ?_
      by_cases q1 : ¬ x < nI 6 ∧ ¬ nI 10 < x
      · refine mj_brf (fun z => vB_0.mp z q1) ?_
        refine mj_b0 40 rfl ?_
        refine mj_cS rfl rfl rfl rfl (m_in32 n 0 (nI 60) (by decide) (by decide)) ?_
        refine mj_b0 40 rfl ?_
        by_cases q2 : ¬ n < 0 ∧ ¬ nI 60 < n
        · refine mj_brf (fun z => vB_0.mp z q2) ?_
          refine mj_b0 40 rfl ?_
          refine mj_cS rfl rfl rfl rfl (m_in32 y 0 (nI 3) (by decide) (by decide)) ?_
          refine mj_b0 40 rfl ?_
          refine mj_brf (fun z => z (vB_0.mpr (fun z2 => q ⟨q1, q2, z2⟩))) ?_
          refine mj_b0 40 rfl ?_
          exact mj_end rfl rfl trivial ⟨rfl, rfl⟩
        · refine mj_brt (vB_0.mpr q2) ?_
          refine mj_b0 40 rfl ?_
          exact mj_end rfl rfl trivial ⟨rfl, rfl⟩
      · refine mj_brt (vB_0.mpr q1) ?_
        refine mj_b0 40 rfl ?_
        exact mj_end rfl rfl trivial ⟨rfl, rfl⟩
end GWS
/-! board -/
def sOT (p : Int32) : Nat → Int64 × Int64 × Int64
  | 0 => (Int64.ofNat 1, p.toInt64, p.toInt64)
  | k + 1 => ((sOT p k).1 + (sOT p k).2.1, (sOT p k).2.2 * (p - nI 5).toInt64 + ((sOT p k).2.1 - (sOT p k).2.2) * (p - nI 6).toInt64 + (sOT p k).2.1, (sOT p k).2.2 * (p - nI 5).toInt64 + ((sOT p k).2.1 - (sOT p k).2.2) * (p - nI 6).toInt64)
theorem kB12_all : (kall 5 fun p => kall 6 fun r => cond (decide (gwA (nI (p + 6)) r 3 ≤ nI 400)) (decide ((sOT (nI (p + 6)) r).1 ≤ 400) && !(kall 22 fun b => !(Nat.beq (bp b) (p + 6) && Nat.beq (br b) r))) (!decide ((sOT (nI (p + 6)) r).1 ≤ 400))) = true := by decide +kernel
theorem kex : ∀ {n : Nat} {f : Nat → Bool}, (!(kall n fun b => !(f b))) = true → ∃ b, b < n ∧ f b = true
  | 0, f, h => by cases h
  | n + 1, f, h => by
    have h' : (!((!(f n)) && kall n fun b => !(f b))) = true := h
    cases hf : f n with
    | true => exact ⟨n, by omega, hf⟩
    | false =>
      rw [hf] at h'
      obtain ⟨b, h1, h2⟩ := kex (n := n) (f := f) h'
      exact ⟨b, by omega, h2⟩
theorem tb12 {p r : Nat} (h1 : 6 ≤ p) (h2 : p ≤ 10) (h3 : r ≤ 5) : (gwA (nI p) r 3 ≤ nI 400 ∧ (sOT (nI p) r).1 ≤ 400 ∧ ∃ b, b < 22 ∧ bp b = p ∧ br b = r) ∨ (¬ gwA (nI p) r 3 ≤ nI 400 ∧ ¬ (sOT (nI p) r).1 ≤ 400) := by
  have k := kall_ok (kall_ok kB12_all (p - 6) (by omega)) r (by omega)
  rw [show p - 6 + 6 = p by omega] at k
  by_cases q : gwA (nI p) r 3 ≤ nI 400
  · rw [decide_eq_true q] at k
    have k' : (decide ((sOT (nI p) r).1 ≤ 400) && !(kall 22 fun b => !(Nat.beq (bp b) p && Nat.beq (br b) r))) = true := k
    rw [Bool.and_eq_true] at k'
    obtain ⟨b, hb, k3⟩ := kex k'.2
    rw [Bool.and_eq_true] at k3
    exact Or.inl ⟨q, of_decide_eq_true k'.1, b, hb, Nat.eq_of_beq_eq_true k3.1, Nat.eq_of_beq_eq_true k3.2⟩
  · rw [decide_eq_false q] at k
    have k' : (!decide ((sOT (nI p) r).1 ≤ 400)) = true := k
    refine Or.inr ⟨q, fun z => ?_⟩
    rw [decide_eq_true z] at k'
    cases k'
section BO
variable {P : fP} {U : fU} {s : fA × fA × fA} {g : fG} {w : fW} {m : fM} {t : fR} {c : fA × fA × fA} {v : fA × fA} {a : fA × Int32} {d : Nat}
set_option maxRecDepth 20000 in
theorem m_sizeOf {n : Nat} {p : Int32} (hn : n ≤ 60) : mj_C (d + 1) nX9_sizeOf [.ref 35, .int p, .int (nI n)] (fbP P (mdZ U s g w m t c v a)) (some (.long (sOT p n).1)) (fbP P (mdZ U s g w m t c v a)) := by
  refine mj_C.of rfl rfl rfl ?_
  refine mj_b0 10 rfl ?_
  refine mj_itJ (fun j (o : Option Value) => (13, [some (.ref 35), some (.int p), some (.int (nI n)), some (.long (sOT p j).1), none, some (.long (sOT p j).2.1), none, some (.long (sOT p j).2.2), none, some (.int (nI (j + 1))), o, none], [], (fbP P (mdZ U s g w m t c v a)))) n (fun j o hj ih => ?_) (fun o => ?_) none
  · have ih := ih (some (.long (sOT p (j + 1)).2.2))
    rw [← nI_add (j + 1) 1] at ih
    refine mj_b0 40 rfl ?_
    refine mj_brf (nI_nlt (by omega) (by omega)) ?_
    refine mj_b0 28 rfl ?_
    exact ih
  · refine mj_b0 40 rfl ?_
    refine mj_brt (nI_lt (by omega) (by omega)) ?_
    refine mj_b0 40 rfl ?_
    exact mj_end rfl rfl trivial ⟨rfl, rfl⟩
end BO
section BOS
variable {d : Nat}
/-- promise 6 -/
theorem s_board (x y : Int32) : Sim (d + 7) nX8_board nX9_board [.int x, .int y] := by
  intro P z hr
  obtain ⟨U, s, g, w, m, t, c, v, a⟩ := z
  obtain ⟨sc, F, S, G, Y, M, T, C, V, A⟩ := P
  by_cases q : (¬ x < nI 6 ∧ ¬ nI 10 < x) ∧ (¬ y < 0 ∧ ¬ nI 5 < y)
  · obtain ⟨q1, q2⟩ := q
    rcases ixn y (n := 6) (by omega) with ⟨-, z⟩ | ⟨r, hr5, rfl⟩
    · exact absurd q2 (nin_no (by omega) z)
    have hx : ∃ p : Nat, 6 ≤ p ∧ p ≤ 10 ∧ x = nI p := by
      rcases pk_ix x (n := 11) (by omega) with z | z | ⟨k, hk, rfl⟩
      · exfalso
        apply q1.1
        rw [Int32.lt_iff_toInt_lt] at z ⊢
        rw [nI_toInt (by omega)]
        have e0 : (0 : Int32).toInt = 0 := by decide
        omega
      · exfalso
        apply q1.2
        rw [Int32.le_iff_toInt_le, nI_toInt (by omega)] at z
        rw [Int32.lt_iff_toInt_lt, nI_toInt (by omega)]
        omega
      · refine ⟨k, ?_, by omega, rfl⟩
        rcases Nat.lt_or_ge k 6 with z | z
        · exact absurd (nI_lt z (by omega)) q1.1
        · exact z
    obtain ⟨p, p1, p2, rfl⟩ := hx
    obtain ⟨b0, hb0, -, -, h3, h4, h5, h6, h7, h8, h9, ⟨hq, hl⟩, h11⟩ := id hr
    rcases tb12 p1 p2 (show r ≤ 5 by omega) with ⟨z1, z2, b, hb, rfl, rfl⟩ | ⟨z1, z2⟩
    · obtain ⟨l1, l2, qq⟩ := V
      obtain ⟨G', C1, V', g1, g2, g3, g4, g5⟩ := x_begin (sc := sc) (F := F) (S := S) (G := G) (Y := Y) (M := M) (T := T) (C := C) (l1 := l1) (l2 := l2) (A := A) (Z := mdz (U, s, g, w, m, t, c, v, a)) (d := d) hb hq
      obtain ⟨g', c1, v1, k1, k2, k3⟩ := x_mbuild (P := (sc, F, S, G', Y, (nI 0, nI 0, nI 0, nI 0), T, (C1, C.2), V', A)) (U := (nI 0, U.2)) (s := s) (w := w) (m := m) (t := t) (c := c) (v := v) (a := a) (d := d + 1) hb g
      have t0 := tb0 hb
      refine ⟨nI (bn b), (sc, F, S, G', Y, (nI 0, nI 0, nI 0, nI 0), T, (C1, C.2), V', A), ((nI 0, U.2), s, g', w, (nI 0, nI 0, nI 0, nI 0), t, (c1, c.2), (v1, v.2), a), ?_, ?_, ⟨b, hb, g1, k1, h3, h4, h5, h6, ⟨rfl, 0, 0, by omega, by omega, rfl, rfl⟩, h8, ?_, ⟨?_, ?_⟩, h11⟩⟩
      · refine mj_C.of rfl rfl rfl ?_
        refine mj_b0 40 rfl ?_
        refine mj_cS rfl rfl rfl rfl (c_isSideNumber (nI (bp b))) ?_
        refine mj_b0 40 rfl ?_
        refine mj_brf (fun z => vB_0.mp z q1) ?_
        refine mj_b0 40 rfl ?_
        refine mj_brf (q2.1) ?_
        refine mj_b0 40 rfl ?_
        refine mj_brt (show nI (br b) ≤ nI 5 from nI_le (by omega) (by omega)) ?_
        refine mj_b0 40 rfl ?_
        refine mj_cS rfl rfl rfl rfl (c_growth (show br b ≤ 60 by omega) (show 3 ≤ 3 by omega)) ?_
        refine mj_b0 40 rfl ?_
        refine mj_brt (z1) ?_
        refine mj_b0 40 rfl ?_
        refine mj_cV rfl rfl rfl rfl rfl rfl (g5) ?_
        refine mj_b0 40 rfl ?_
        exact mj_end rfl rfl trivial ⟨by rw [← bd_cl g1], rfl⟩
      · refine mj_C.of rfl rfl rfl ?_
        refine mj_b0 40 rfl ?_
        refine mj_hq (h' := fbP (sc, F, S, G', Y, (nI 0, nI 0, nI 0, nI 0), T, (C1, C.2), V', A) (mdZ (nI 0, U.2) s g w m t c v a)) rfl ?_
        refine mj_cS rfl rfl rfl rfl (m_in32 (nI (bp b)) (nI 6) (nI 10) (by decide) (by decide)) ?_
        refine mj_b0 40 rfl ?_
        refine mj_brf (fun z => vB_0.mp z q1) ?_
        refine mj_b0 40 rfl ?_
        refine mj_cS rfl rfl rfl rfl (m_in32 (nI (br b)) 0 (nI 5) (by decide) (by decide)) ?_
        refine mj_b0 40 rfl ?_
        refine mj_brt (fun z => vB_0.mp z q2) ?_
        refine mj_b0 40 rfl ?_
        refine mj_cV rfl rfl rfl rfl rfl rfl (m_sizeOf (show br b ≤ 60 by omega)) ?_
        refine mj_b0 40 rfl ?_
        refine mj_brt ((lg_cmp_le _ _).mpr z2) ?_
        refine mj_b0 40 rfl ?_
        refine mj_cV rfl rfl rfl rfl rfl rfl (k3) ?_
        refine mj_b0 40 rfl ?_
        exact mj_end rfl rfl trivial ⟨by rw [← bd_cl k1], rfl⟩
      · intro i hi
        have e1 : C1 i = nI 0 := g2 i (by omega)
        have e2 : c1 i = nI 0 := (k2 i (by omega)).1
        exact ⟨e1.trans e2.symm, Or.inr ⟨0, by omega, e2⟩⟩
      · show V'.2.2 = _ ∨ V'.2.2 = _
        rw [g3]
        exact hq
      · intro i hi
        have e1 : lvs V' i = nI 0 := by
          have g4' := g4 i (by omega)
          have e : V'.2.2.1 = qq.1 := by rw [g3]
          unfold lvs
          rw [e]
          exact g4'
        have e2 : v1 i = nI 0 := (k2 i (by omega)).2
        exact ⟨e1.trans e2.symm, Or.inl e2⟩
    · refine ⟨-1000003, (sc, F, S, G, Y, M, T, C, V, A), ((nI 0, U.2), s, g, w, m, t, c, v, a), ?_, ?_, hr.thrown⟩
      · refine mj_C.of rfl rfl rfl ?_
        refine mj_b0 40 rfl ?_
        refine mj_cS rfl rfl rfl rfl (c_isSideNumber (nI p)) ?_
        refine mj_b0 40 rfl ?_
        refine mj_brf (fun z => vB_0.mp z q1) ?_
        refine mj_b0 40 rfl ?_
        refine mj_brf (q2.1) ?_
        refine mj_b0 40 rfl ?_
        refine mj_brt (show nI r ≤ nI 5 from nI_le (by omega) (by omega)) ?_
        refine mj_b0 40 rfl ?_
        refine mj_cS rfl rfl rfl rfl (c_growth (show r ≤ 60 by omega) (show 3 ≤ 3 by omega)) ?_
        refine mj_b0 40 rfl ?_
        refine mj_brf (z1) ?_
        refine mj_b0 40 rfl ?_
        exact mj_end rfl rfl trivial ⟨rfl, rfl⟩
      · refine mj_C.of rfl rfl rfl ?_
        refine mj_b0 40 rfl ?_
        refine mj_hq (h' := fbP (sc, F, S, G, Y, M, T, C, V, A) (mdZ (nI 0, U.2) s g w m t c v a)) rfl ?_
        refine mj_cS rfl rfl rfl rfl (m_in32 (nI p) (nI 6) (nI 10) (by decide) (by decide)) ?_
        refine mj_b0 40 rfl ?_
        refine mj_brf (fun z => vB_0.mp z q1) ?_
        refine mj_b0 40 rfl ?_
        refine mj_cS rfl rfl rfl rfl (m_in32 (nI r) 0 (nI 5) (by decide) (by decide)) ?_
        refine mj_b0 40 rfl ?_
        refine mj_brt (fun z => vB_0.mp z q2) ?_
        refine mj_b0 40 rfl ?_
        refine mj_cV rfl rfl rfl rfl rfl rfl (m_sizeOf (show r ≤ 60 by omega)) ?_
        refine mj_b0 40 rfl ?_
        refine mj_brf (fun z => z2 ((lg_cmp_le _ _).mp z)) ?_
        refine mj_b0 40 rfl ?_
        exact mj_end rfl rfl trivial ⟨rfl, rfl⟩
  · refine ⟨BD, (sc, F, S, G, Y, M, T, C, V, A), ((nI 0, U.2), s, g, w, m, t, c, v, a), ?_, ?_, hr.thrown⟩
    · refine mj_C.of rfl rfl rfl ?_
      refine mj_b0 40 rfl ?_
      refine mj_cS rfl rfl rfl rfl (c_isSideNumber x) ?_
      refine mj_b0 40 rfl ?_
      by_cases q1 : ¬ x < nI 6 ∧ ¬ nI 10 < x
      · refine mj_brf (fun z => vB_0.mp z q1) ?_
        refine mj_b0 40 rfl ?_
        refine mj_br (fun q2 => ?_) (fun q2 => ?_)
        · refine mj_b0 40 rfl ?_
          exact mj_end rfl rfl trivial ⟨rfl, rfl⟩
        · refine mj_b0 40 rfl ?_
          refine mj_br (fun q3 => ?_) (fun q3 => ?_)
          · exact absurd ⟨q1, q2, fun z => by
              have q6 : y ≤ nI 5 := q3
              rw [Int32.le_iff_toInt_le] at q6
              rw [Int32.lt_iff_toInt_lt] at z
              omega⟩ q
          · refine mj_b0 40 rfl ?_
            exact mj_end rfl rfl trivial ⟨rfl, rfl⟩
      · refine mj_brt (vB_0.mpr q1) ?_
        refine mj_b0 40 rfl ?_
        exact mj_end rfl rfl trivial ⟨rfl, rfl⟩
    · refine mj_C.of rfl rfl rfl ?_
      refine mj_b0 40 rfl ?_
      refine mj_hq (h' := fbP (sc, F, S, G, Y, M, T, C, V, A) (mdZ (nI 0, U.2) s g w m t c v a)) rfl ?_
      refine mj_cS rfl rfl rfl rfl (m_in32 x (nI 6) (nI 10) (by decide) (by decide)) ?_
      refine mj_b0 40 rfl ?_
      by_cases q1 : ¬ x < nI 6 ∧ ¬ nI 10 < x
      · refine mj_brf (fun z => vB_0.mp z q1) ?_
        refine mj_b0 40 rfl ?_
        refine mj_cS rfl rfl rfl rfl (m_in32 y 0 (nI 5) (by decide) (by decide)) ?_
        refine mj_b0 40 rfl ?_
        refine mj_brf (fun z => z (vB_0.mpr (fun z2 => q ⟨q1, z2⟩))) ?_
        refine mj_b0 40 rfl ?_
        exact mj_end rfl rfl trivial ⟨rfl, rfl⟩
      · refine mj_brt (vB_0.mpr q1) ?_
        refine mj_b0 40 rfl ?_
        exact mj_end rfl rfl trivial ⟨rfl, rfl⟩
end BOS
