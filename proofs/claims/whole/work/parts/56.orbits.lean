/-! promise 30, side by side -/
def oSt (b : Nat) : Nat → Nat
  | 0 => 1
  | k + 1 => oSt b k + tSz b (k + 1) / bp b
def oLs (b m c : Nat) : Nat → Bool
  | 0 => Nat.ble (tRo b c) m
  | t + 1 => oLs b m c t && Nat.ble c (tTn b c t)
def oCt (b m : Nat) : Nat → Nat
  | 0 => 0
  | c + 1 => oCt b m c + cond (oLs b m c (bp b)) 1 0
def kTn (b c t : Nat) : Nat := cond (Nat.beq c 0) 0 (bRs b (tRo b c) + (c - bRs b (tRo b c) + t * ((bRs b (tRo b c + 1) - bRs b (tRo b c)) / bp b)) % (bRs b (tRo b c + 1) - bRs b (tRo b c)))
theorem kTn_eq (b c t : Nat) : kTn b c t = tTn b c t := by
  unfold kTn tTn
  cases c with
  | zero => rfl
  | succ c => rfl
def kLs (b m c : Nat) (p : Nat) : Bool := Nat.ble (tRo b c) m && kall p (fun t => Nat.ble c (kTn b c t))
theorem kLs_eq (b m c : Nat) : ∀ p, kLs b m c p = oLs b m c p
  | 0 => by
    show (Nat.ble (tRo b c) m && true) = Nat.ble (tRo b c) m
    rw [Bool.and_true]
  | p + 1 => by
    show (Nat.ble (tRo b c) m && (Nat.ble c (kTn b c p) && kall p (fun t => Nat.ble c (kTn b c t)))) = (oLs b m c p && Nat.ble c (tTn b c p))
    rw [← kLs_eq b m c p, kTn_eq]
    show _ = ((Nat.ble (tRo b c) m && kall p (fun t => Nat.ble c (kTn b c t))) && _)
    rw [Bool.and_comm (Nat.ble c (tTn b c p)), Bool.and_assoc]
def kCt (b m n : Nat) : Nat := Nat.rec 0 (fun c r => r + cond (kLs b m c (bp b)) 1 0) n
theorem kCt_eq (b m : Nat) : ∀ n, kCt b m n = oCt b m n
  | 0 => rfl
  | c + 1 => by
    show kCt b m c + cond (kLs b m c (bp b)) 1 0 = oCt b m c + cond (oLs b m c (bp b)) 1 0
    rw [kCt_eq b m c, kLs_eq]
def kSt (b m : Nat) : Nat := Nat.rec 1 (fun k r => r + (bRs b (k + 2) - bRs b (k + 1)) / bp b) m
theorem kSt_eq (b : Nat) : ∀ m, kSt b m = oSt b m
  | 0 => rfl
  | k + 1 => by
    show kSt b k + (bRs b (k + 2) - bRs b (k + 1)) / bp b = oSt b k + _
    rw [kSt_eq b k]
    rfl
set_option maxRecDepth 100000 in
theorem kB10_all : (kall 22 fun b => kall (br b + 1) (fun m => Nat.beq (kCt b m (bn b)) (kSt b m))) = true := by decide +kernel
theorem tb10 {b m : Nat} (hb : b < 22) (hm : m ≤ br b) : oCt b m (bn b) = oSt b m := by
  have k := kall_ok (kall_ok kB10_all b hb) m (by omega)
  rw [← kCt_eq, ← kSt_eq]
  exact Nat.eq_of_beq_eq_true k
section OR
variable {sc : mj_E} {F : Int32 × Int32} {S : fA × fA × fA} {G : fG} {Y : fY} {M : fM} {T : fT} {C : fC} {V : fV} {A : fA × Int32} {Z : mj_H} {d : Nat}
theorem c_orbits {b m : Nat} (hb : b < 22) (h : Bd b G) (hm : m ≤ br b) : mj_C (d + 4) nX8_orbits [.ref 1, .int (nI m)] (fbH sc F S G Y M T C V A Z) (some (.int (nI (oSt b m)))) (fbH sc F S G Y M T C V A Z) := by
  have t0 := tb0 hb
  refine mj_C.of rfl rfl rfl ?_
  refine mj_b0 40 rfl ?_
  refine mj_cV rfl rfl rfl rfl rfl rfl (c_hasRing h (nI m)) ?_
  refine mj_b0 40 rfl ?_
  refine mj_brt (fun z => vB_0.mp z ⟨nI_pos (by omega), nI_nlt (by omega) (by omega)⟩) ?_
  refine mj_b0 4 rfl ?_
  refine mj_iter (fun k => (18, [some (.ref 1), some (.int (nI m)), some (.int (nI (oSt b k))), some (.int (nI (k + 1)))], [], (fbH sc F S G Y M T C V A Z))) m (fun k hk ih => ?_) ?_
  · refine mj_b0 40 rfl ?_
    refine mj_brf (nI_nlt (by omega) (by omega)) ?_
    refine mj_b0 40 rfl ?_
    refine mj_cV rfl rfl rfl rfl rfl rfl (c_partOf hb h (show k + 1 ≤ br b by omega)) ?_
    refine mj_b0 4 rfl ?_
    rw [nI_add]
    rw [← nI_add (k + 1) 1] at ih
    exact ih
  · refine mj_b0 40 rfl ?_
    refine mj_brt (nI_lt (by omega) (by omega)) ?_
    refine mj_b0 40 rfl ?_
    exact mj_end rfl rfl trivial ⟨rfl, rfl⟩
end OR
section ORm
variable {P : fP} {U : fU} {s : fA × fA × fA} {g : fG} {w : fW} {m : fM} {t : fR} {c : fA × fA × fA} {v : fA × fA} {a : fA × Int32} {d : Nat}
theorem m_orbits {b q : Nat} (hb : b < 22) (h : Bd b g) (hq : q ≤ br b) : mj_C (d + 4) nX9_orbits [.ref 35, .int (nI q)] (fbP P (mdZ U s g w m t c v a)) (some (.int (nI (oCt b q (bn b))))) (fbP P (mdZ (nI 0, U.2) s g w m t c v a)) := by
  have t0 := tb0 hb
  refine mj_C.of rfl rfl rfl ?_
  refine mj_b0 40 rfl ?_
  refine mj_hq (h' := (fbP P (mdZ (nI 0, U.2) s g w m t c v a))) rfl ?_
  rw [bd_rg h]
  refine mj_cS rfl rfl rfl rfl (m_in32 (nI q) 0 (nI (br b)) (by decide) rfl) ?_
  refine mj_b0 40 rfl ?_
  refine mj_brt (fun z => vB_0.mp z ⟨nI_pos (by omega), nI_nlt (by omega) (by omega)⟩) ?_
  refine mj_b0 4 rfl ?_
  refine mj_itJ (fun k (x : Option Value × Option Value) => (26, [some (.ref 35), some (.int (nI q)), some (.int (nI (oCt b q k))), some (.int (nI k)), x.1, x.2], [], (fbP P (mdZ (nI 0, U.2) s g w m t c v a)))) (bn b) (fun k x hk ih => ?_) (fun x => ?_) (none, none)
  · have t1 := tb1 hb hk
    have e1 : (nI k).toNatClampNeg = k := nI_clamp (by omega)
    have inner : ∀ y : Option Value, mj_R (mj_C (d + 3)) 9 false (some .int) iX9_orbits (54, [some (.ref 35), some (.int (nI q)), some (.int (nI (oCt b q k))), some (.int (nI k)), some (.int (bI (oLs b q k 0))), some (.int (nI 0))], [], (fbP P (mdZ (nI 0, U.2) s g w m t c v a))) (fun r2 h2 => r2 = some (.int (nI (oCt b q (bn b)))) ∧ h2 = (fbP P (mdZ (nI 0, U.2) s g w m t c v a))) := by
      intro y
      refine mj_iter (fun j => (54, [some (.ref 35), some (.int (nI q)), some (.int (nI (oCt b q k))), some (.int (nI k)), some (.int (bI (oLs b q k j))), some (.int (nI j))], [], (fbP P (mdZ (nI 0, U.2) s g w m t c v a)))) (bp b) (fun j hj ij => ?_) ?_
      · rw [← nI_add j 1] at ij
        simp only [oLs] at ij
        refine mj_b0 40 rfl ?_
        refine mj_brf (by rw [bd_sd h]; exact nI_ge hj (by omega)) ?_
        refine mj_b0 40 rfl ?_
        cases hl : oLs b q k j with
        | false =>
          rw [hl, Bool.false_and] at ij
          refine mj_brt (show bI false = 0 by decide) ?_
          refine mj_b0 4 rfl ?_
          exact ij
        | true =>
          rw [hl, Bool.true_and] at ij
          have hlt := tTn_lt (t := j) hb hk
          refine mj_brf (show ¬ bI true = 0 by decide) ?_
          refine mj_b0 40 rfl ?_
          refine mj_cV rfl rfl rfl rfl rfl rfl (m_turnedOf hb h hk hj) ?_
          refine mj_b0 40 rfl ?_
          cases hl2 : Nat.ble k (tTn b k j) with
          | false =>
            have z : tTn b k j < k := Nat.lt_of_not_le (fun z => by rw [Nat.ble_eq_true_of_le z] at hl2; cases hl2)
            rw [hl2] at ij
            refine mj_brt (nI_lt z (by omega)) ?_
            refine mj_b0 4 rfl ?_
            exact ij
          | true =>
            have z : k ≤ tTn b k j := Nat.le_of_ble_eq_true hl2
            rw [hl2] at ij
            refine mj_brf (nI_nlt z (by omega)) ?_
            refine mj_b0 5 rfl ?_
            exact ij
      · refine mj_b0 40 rfl ?_
        refine mj_brt (by rw [bd_sd h]; exact nI_le (by omega) (by omega)) ?_
        refine mj_b0 40 rfl ?_
        have ih := ih (some (.int (bI (oLs b q k (bp b)))), some (.int (nI (bp b))))
        dsimp only at ih
        simp only [oCt] at ih
        rw [← nI_add k 1] at ih
        cases hl : oLs b q k (bp b) with
        | false =>
          rw [hl, ← nI_add] at ih
          refine mj_brt (show bI false = 0 by decide) ?_
          refine mj_b0 5 rfl ?_
          exact ih
        | true =>
          rw [hl, ← nI_add] at ih
          refine mj_brf (show ¬ bI true = 0 by decide) ?_
          refine mj_b0 6 rfl ?_
          exact ih
    refine mj_b0 40 rfl ?_
    refine mj_brf (by rw [bd_cl h]; exact nI_ge hk (by omega)) ?_
    refine mj_b1 40 rfl (nI_ix (show k < 400 by omega) (by omega)) ?_
    rw [e1, bd_ro h hk]
    cases hl : Nat.ble (tRo b k) q with
    | false =>
      have z : q < tRo b k := Nat.lt_of_not_le (fun z => by rw [Nat.ble_eq_true_of_le z] at hl; cases hl)
      refine mj_brt (nI_lt z (by omega)) ?_
      refine mj_b0 4 rfl ?_
      have i2 := inner none
      simp only [oLs, hl] at i2
      exact i2
    | true =>
      have z : tRo b k ≤ q := Nat.le_of_ble_eq_true hl
      refine mj_brf (nI_nlt z (by omega)) ?_
      refine mj_b0 5 rfl ?_
      have i2 := inner none
      simp only [oLs, hl] at i2
      exact i2
  · refine mj_b0 40 rfl ?_
    refine mj_brt (by rw [bd_cl h]; exact nI_le (by omega) (by omega)) ?_
    refine mj_b0 40 rfl ?_
    exact mj_end rfl rfl trivial ⟨rfl, rfl⟩
end ORm
section ORS
variable {d : Nat}
/-- promise 30 -/
theorem s_orbits (x : Int32) : Sim (d + 4) nX8_orbits nX9_orbits [.int x] := by
  refine Sim.board0 (fun b hb => ?_)
  have t0 := tb0 hb
  by_cases q : ¬ x < 0 ∧ ¬ nI (br b) < x
  · rcases ixn x (n := br b + 1) (by omega) with ⟨-, z⟩ | ⟨j, hj, rfl⟩
    · exact absurd q (nin_no (by omega) z)
    exact ⟨nI (oSt b j), fun sc F S G Y M T C V A Z h => c_orbits hb h (by omega), fun P U s g w m t c v a h => by rw [← tb10 hb (show j ≤ br b by omega)]; exact m_orbits hb h (by omega)⟩
  · refine ⟨BD, fun sc F S G Y M T C V A Z h => ?_, fun P U s g w m t c v a h => ?_⟩
    · refine mj_C.of rfl rfl rfl ?_
      refine mj_b0 40 rfl ?_
      refine mj_cV rfl rfl rfl rfl rfl rfl (c_hasRing h x) ?_
      refine mj_b0 40 rfl ?_
      refine mj_brf (fun z => z (vB_0.mpr q)) ?_
      refine mj_b0 40 rfl ?_
      exact mj_end rfl rfl trivial ⟨rfl, rfl⟩
    · refine mj_C.of rfl rfl rfl ?_
      refine mj_b0 40 rfl ?_
      refine mj_hq (h' := (fbP P (mdZ (nI 0, U.2) s g w m t c v a))) rfl ?_
      rw [bd_rg h]
      refine mj_cS rfl rfl rfl rfl (m_in32 x 0 (nI (br b)) (by decide) rfl) ?_
      refine mj_b0 40 rfl ?_
      refine mj_brf (fun z => z (vB_0.mpr q)) ?_
      refine mj_b0 40 rfl ?_
      exact mj_end rfl rfl trivial ⟨rfl, rfl⟩
end ORS
