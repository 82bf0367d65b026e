/-! promises 25, 27 and 29, side by side -/
def LvR (b : Nat) (l v : fA) : Prop := ∀ c, c < bn b → l c = v c ∧ (v c = nI 0 ∨ v c = nI 1)
theorem LvR.upd {b k : Nat} {l v : fA} {x : Int32} (h : LvR b l v) (hx : x = nI 0 ∨ x = nI 1) : LvR b (upd l k x) (upd v k x) := by
  intro c hc
  by_cases e : c = k
  · rw [e, pk_us, pk_us]
    exact ⟨rfl, hx⟩
  · rw [pk_un e, pk_un e]
    exact h c hc
/-- sums from a place on -/
def smF (f : fA) (i : Nat) : Nat → Int32
  | 0 => nI 0
  | n + 1 => smF f i n + f (i + n)
section LI
variable {sc : mj_E} {F : Int32 × Int32} {S : fA × fA × fA} {G : fG} {Y : fY} {M : fM} {T : fT} {C : fC} {l1 l2 : fA} {A : fA × Int32} {Z : mj_H} {d : Nat}
theorem c_countIn_a {i n : Nat} (hn : i + n ≤ 400) : mj_C (d + 1) nX3_countIn [.ref 30, .int (nI i), .int (nI (i + n))] (fbH sc F S G Y M T C (l1, l2, 31, 32) A Z) (some (.int (smF l1 i n))) (fbH sc F S G Y M T C (l1, l2, 31, 32) A Z) := by
  refine mj_C.of rfl rfl rfl ?_
  refine mj_b0 4 rfl ?_
  refine mj_iter (fun k => (5, [some (.ref 30), some (.int (nI i)), some (.int (nI (i + n))), some (.int (smF l1 i k)), some (.int (nI (i + k)))], [], fbH sc F S G Y M T C (l1, l2, 31, 32) A Z)) n (fun k hk ih => ?_) ?_
  · have e1 : (nI (i + k)).toNatClampNeg = i + k := nI_clamp (by omega)
    refine mj_b0 40 rfl ?_
    refine mj_brf (nI_ge (by omega) (by omega)) ?_
    refine mj_b0 40 rfl ?_
    refine mj_brf (show ¬ nI 400 ≤ nI (i + k) from nI_ge (by omega) (by omega)) ?_
    refine mj_b1 7 rfl (nI_ix (show i + k < 400 by omega) (by omega)) ?_
    rw [e1]
    refine mj_b0 2 rfl ?_
    rw [← Nat.add_assoc, ← nI_add (i + k) 1] at ih
    exact ih
  · refine mj_b0 40 rfl ?_
    refine mj_brt (nI_le (by omega) (by omega)) ?_
    refine mj_b0 40 rfl ?_
    exact mj_end rfl rfl trivial ⟨rfl, rfl⟩
theorem c_same_a {b t : Nat} (hb : b < 22) (h : Bd b G) (ht : t < bp b) : mj_C (d + 4) nX3_isSameTurned [.ref 30, .int (nI t)] (fbH sc F S G Y M T C (l1, l2, 31, 32) A Z) (some (.int (vB (∀ c, c < bn b → l1 c = l1 (tTn b c t))))) (fbH sc F S G Y M T C (l1, l2, 31, 32) A Z) := by
  have t0 := tb0 hb
  refine mj_C.of rfl rfl rfl ?_
  refine mj_b0 2 rfl ?_
  have main : ∀ j k, j + k = bn b → (∀ c, c < k → l1 c = l1 (tTn b c t)) → mj_R (mj_C (d + 3)) 3 false (some .boolean) iX3_isSameTurned (2, [some (.ref 30), some (.int (nI t)), some (.int (nI k))], [], fbH sc F S G Y M T C (l1, l2, 31, 32) A Z) (fun r2 h2 => r2 = some (.int (vB (∀ c, c < bn b → l1 c = l1 (tTn b c t)))) ∧ h2 = fbH sc F S G Y M T C (l1, l2, 31, 32) A Z) := by
    intro j
    induction j with
    | zero =>
      intro k hk hp
      refine mj_b0 40 rfl ?_
      refine mj_brt (by rw [bd_cl h]; exact nI_le (by omega) (by omega)) ?_
      refine mj_b0 40 rfl ?_
      exact mj_end rfl rfl (Or.inr rfl) ⟨by rw [vB_t (fun c hc => hp c (by omega))]; rfl, rfl⟩
    | succ j ih =>
      intro k hk hp
      have hkb : k < bn b := by omega
      have hlt := tTn_lt (t := t) hb hkb
      have e1 : (nI k).toNatClampNeg = k := nI_clamp (by omega)
      have e2 : (nI (tTn b k t)).toNatClampNeg = tTn b k t := nI_clamp (by omega)
      refine mj_b0 40 rfl ?_
      refine mj_brf (by rw [bd_cl h]; exact nI_ge hkb (by omega)) ?_
      refine mj_b1 40 rfl (nI_ix (show k < 400 by omega) (by omega)) ?_
      rw [e1]
      refine mj_cV rfl rfl rfl rfl rfl rfl (c_turn hb h hkb ht) ?_
      refine mj_b1 40 rfl (nI_ix (show tTn b k t < 400 by omega) (by omega)) ?_
      rw [e2]
      by_cases q : l1 k = l1 (tTn b k t)
      · refine mj_brt (q) ?_
        refine mj_b0 2 rfl ?_
        have i2 := ih (k + 1) (by omega) (fun c hc => by
          by_cases e : c = k
          · rw [e]; exact q
          · exact hp c (by omega))
        rw [← nI_add k 1] at i2
        exact i2
      · refine mj_brf (q) ?_
        refine mj_b0 40 rfl ?_
        exact mj_end rfl rfl (Or.inl rfl) ⟨by rw [vB_f (fun z => q (z k hkb))]; rfl, rfl⟩
  exact main (bn b) 0 (by omega) (fun c hc => absurd hc (by omega))
theorem c_countIn_b {i n : Nat} (hn : i + n ≤ 400) : mj_C (d + 1) nX3_countIn [.ref 30, .int (nI i), .int (nI (i + n))] (fbH sc F S G Y M T C (l1, l2, 32, 31) A Z) (some (.int (smF l2 i n))) (fbH sc F S G Y M T C (l1, l2, 32, 31) A Z) := by
  refine mj_C.of rfl rfl rfl ?_
  refine mj_b0 4 rfl ?_
  refine mj_iter (fun k => (5, [some (.ref 30), some (.int (nI i)), some (.int (nI (i + n))), some (.int (smF l2 i k)), some (.int (nI (i + k)))], [], fbH sc F S G Y M T C (l1, l2, 32, 31) A Z)) n (fun k hk ih => ?_) ?_
  · have e1 : (nI (i + k)).toNatClampNeg = i + k := nI_clamp (by omega)
    refine mj_b0 40 rfl ?_
    refine mj_brf (nI_ge (by omega) (by omega)) ?_
    refine mj_b0 40 rfl ?_
    refine mj_brf (show ¬ nI 400 ≤ nI (i + k) from nI_ge (by omega) (by omega)) ?_
    refine mj_b1 7 rfl (nI_ix (show i + k < 400 by omega) (by omega)) ?_
    rw [e1]
    refine mj_b0 2 rfl ?_
    rw [← Nat.add_assoc, ← nI_add (i + k) 1] at ih
    exact ih
  · refine mj_b0 40 rfl ?_
    refine mj_brt (nI_le (by omega) (by omega)) ?_
    refine mj_b0 40 rfl ?_
    exact mj_end rfl rfl trivial ⟨rfl, rfl⟩
theorem c_same_b {b t : Nat} (hb : b < 22) (h : Bd b G) (ht : t < bp b) : mj_C (d + 4) nX3_isSameTurned [.ref 30, .int (nI t)] (fbH sc F S G Y M T C (l1, l2, 32, 31) A Z) (some (.int (vB (∀ c, c < bn b → l2 c = l2 (tTn b c t))))) (fbH sc F S G Y M T C (l1, l2, 32, 31) A Z) := by
  have t0 := tb0 hb
  refine mj_C.of rfl rfl rfl ?_
  refine mj_b0 2 rfl ?_
  have main : ∀ j k, j + k = bn b → (∀ c, c < k → l2 c = l2 (tTn b c t)) → mj_R (mj_C (d + 3)) 3 false (some .boolean) iX3_isSameTurned (2, [some (.ref 30), some (.int (nI t)), some (.int (nI k))], [], fbH sc F S G Y M T C (l1, l2, 32, 31) A Z) (fun r2 h2 => r2 = some (.int (vB (∀ c, c < bn b → l2 c = l2 (tTn b c t)))) ∧ h2 = fbH sc F S G Y M T C (l1, l2, 32, 31) A Z) := by
    intro j
    induction j with
    | zero =>
      intro k hk hp
      refine mj_b0 40 rfl ?_
      refine mj_brt (by rw [bd_cl h]; exact nI_le (by omega) (by omega)) ?_
      refine mj_b0 40 rfl ?_
      exact mj_end rfl rfl (Or.inr rfl) ⟨by rw [vB_t (fun c hc => hp c (by omega))]; rfl, rfl⟩
    | succ j ih =>
      intro k hk hp
      have hkb : k < bn b := by omega
      have hlt := tTn_lt (t := t) hb hkb
      have e1 : (nI k).toNatClampNeg = k := nI_clamp (by omega)
      have e2 : (nI (tTn b k t)).toNatClampNeg = tTn b k t := nI_clamp (by omega)
      refine mj_b0 40 rfl ?_
      refine mj_brf (by rw [bd_cl h]; exact nI_ge hkb (by omega)) ?_
      refine mj_b1 40 rfl (nI_ix (show k < 400 by omega) (by omega)) ?_
      rw [e1]
      refine mj_cV rfl rfl rfl rfl rfl rfl (c_turn hb h hkb ht) ?_
      refine mj_b1 40 rfl (nI_ix (show tTn b k t < 400 by omega) (by omega)) ?_
      rw [e2]
      by_cases q : l2 k = l2 (tTn b k t)
      · refine mj_brt (q) ?_
        refine mj_b0 2 rfl ?_
        have i2 := ih (k + 1) (by omega) (fun c hc => by
          by_cases e : c = k
          · rw [e]; exact q
          · exact hp c (by omega))
        rw [← nI_add k 1] at i2
        exact i2
      · refine mj_brf (q) ?_
        refine mj_b0 40 rfl ?_
        exact mj_end rfl rfl (Or.inl rfl) ⟨by rw [vB_f (fun z => q (z k hkb))]; rfl, rfl⟩
  exact main (bn b) 0 (by omega) (fun c hc => absurd hc (by omega))
end LI
section LI2
variable {sc : mj_E} {F : Int32 × Int32} {S : fA × fA × fA} {G : fG} {Y : fY} {M : fM} {T : fT} {C : fC} {V : fV} {A : fA × Int32} {Z : mj_H} {d : Nat}
theorem x_countIn (hq : V.2.2 = (31, 32) ∨ V.2.2 = (32, 31)) {i n : Nat} (hn : i + n ≤ 400) : mj_C (d + 1) nX3_countIn [.ref 30, .int (nI i), .int (nI (i + n))] (fbH sc F S G Y M T C V A Z) (some (.int (smF (lvs V) i n))) (fbH sc F S G Y M T C V A Z) := by
  obtain ⟨l1, l2, q⟩ := V
  rcases hq with z | z
  · have z' : q = (31, 32) := z
    subst z'
    exact c_countIn_a hn
  · have z' : q = (32, 31) := z
    subst z'
    exact c_countIn_b hn
theorem x_same (hq : V.2.2 = (31, 32) ∨ V.2.2 = (32, 31)) {b t : Nat} (hb : b < 22) (h : Bd b G) (ht : t < bp b) : mj_C (d + 4) nX3_isSameTurned [.ref 30, .int (nI t)] (fbH sc F S G Y M T C V A Z) (some (.int (vB (∀ c, c < bn b → lvs V c = lvs V (tTn b c t))))) (fbH sc F S G Y M T C V A Z) := by
  obtain ⟨l1, l2, q⟩ := V
  rcases hq with z | z
  · have z' : q = (31, 32) := z
    subst z'
    exact c_same_a hb h ht
  · have z' : q = (32, 31) := z
    subst z'
    exact c_same_b hb h ht
end LI2
section LIm
variable {P : fP} {U : fU} {s : fA × fA × fA} {g : fG} {w : fW} {m : fM} {t : fR} {c : fA × fA × fA} {v : fA × fA} {a : fA × Int32} {d : Nat}
/-- the ones that live: all (r = NO), or a ring's -/
theorem m_livingIn {b : Nat} {r : Int32} (hb : b < 22) (h : Bd b g) (hl : ∀ c, c < bn b → v.1 c = nI 0 ∨ v.1 c = nI 1) : mj_C (d + 1) nX9_livingIn [.ref 35, .int r] (fbP P (mdZ U s g w m t c v a)) (some (.int (sm (fun k => if r = NO ∨ nI (tRo b k) = r then v.1 k else nI 0) (bn b)))) (fbP P (mdZ U s g w m t c v a)) := by
  have t0 := tb0 hb
  refine mj_C.of rfl rfl rfl ?_
  refine mj_b0 4 rfl ?_
  refine mj_iter (fun k => (4, [some (.ref 35), some (.int r), some (.int (sm (fun k => if r = NO ∨ nI (tRo b k) = r then v.1 k else nI 0) k)), some (.int (nI k))], [], (fbP P (mdZ U s g w m t c v a)))) (bn b) (fun k hk ih => ?_) ?_
  · have e1 : (nI k).toNatClampNeg = k := nI_clamp (by omega)
    have z0 : ∀ z : Int32, z = (if r = NO ∨ nI (tRo b k) = r then v.1 k else nI 0) → mj_R (mj_C d) 9 false (some .int) iX9_livingIn (43, [some (.ref 35), some (.int r), some (.int (sm (fun k => if r = NO ∨ nI (tRo b k) = r then v.1 k else nI 0) k)), some (.int (nI k))], [.int z, .int (sm (fun k => if r = NO ∨ nI (tRo b k) = r then v.1 k else nI 0) k)], (fbP P (mdZ U s g w m t c v a))) (fun r2 h2 => r2 = some (.int (sm (fun k => if r = NO ∨ nI (tRo b k) = r then v.1 k else nI 0) (bn b))) ∧ h2 = (fbP P (mdZ U s g w m t c v a))) := by
      intro z hz
      refine mj_b0 4 rfl ?_
      subst hz
      rw [← nI_add k 1] at ih
      exact ih
    refine mj_b0 40 rfl ?_
    refine mj_brf (by rw [bd_cl h]; exact nI_ge hk (by omega)) ?_
    refine mj_b1 40 rfl (nI_ix (show k < 400 by omega) (by omega)) ?_
    rw [e1]
    by_cases q : v.1 k = nI 0
    · refine mj_brt (q) ?_
      refine mj_b0 1 rfl ?_
      exact z0 (nI 0) (by rw [q]; split <;> rfl)
    · have q1 := (hl k hk).resolve_left q
      refine mj_brf (q) ?_
      refine mj_b0 40 rfl ?_
      by_cases q2 : r = NO
      · refine mj_brt (q2) ?_
        refine mj_b0 2 rfl ?_
        exact z0 (nI 1) (by rw [if_pos (Or.inl q2), q1])
      · refine mj_brf (q2) ?_
        refine mj_b1 40 rfl (nI_ix (show k < 400 by omega) (by omega)) ?_
        rw [e1, bd_ro h hk]
        by_cases q3 : nI (tRo b k) = r
        · refine mj_brf (fun z => z q3) ?_
          refine mj_b0 2 rfl ?_
          exact z0 (nI 1) (by rw [if_pos (Or.inr q3), q1])
        · refine mj_brt (q3) ?_
          refine mj_b0 1 rfl ?_
          exact z0 (nI 0) (by rw [if_neg (fun z => z.elim q2 q3)])
  · refine mj_b0 40 rfl ?_
    refine mj_brt (by rw [bd_cl h]; exact nI_le (by omega) (by omega)) ?_
    refine mj_b0 40 rfl ?_
    exact mj_end rfl rfl trivial ⟨rfl, rfl⟩
theorem m_alike {b x : Nat} (hb : b < 22) (h : Bd b g) (hx : x < bp b) : mj_C (d + 4) nX9_alike [.ref 35, .int (nI x)] (fbP P (mdZ U s g w m t c v a)) (some (.int (vB (∀ c, c < bn b → v.1 c = v.1 (tTn b c x))))) (fbP P (mdZ (nI 0, U.2) s g w m t c v a)) := by
  have t0 := tb0 hb
  refine mj_C.of rfl rfl rfl ?_
  refine mj_b0 40 rfl ?_
  refine mj_hq (h' := (fbP P (mdZ (nI 0, U.2) s g w m t c v a))) rfl ?_
  refine mj_cV rfl rfl rfl rfl rfl rfl (xm_isSide hb h (nI x)) ?_
  refine mj_b0 40 rfl ?_
  refine mj_brt (fun z => vB_0.mp z (okp hb hx)) ?_
  refine mj_b0 4 rfl ?_
  have e0 : ∀ n, n = 0 → mj_kc 1 = vB (∀ c, c < n → v.1 c = v.1 (tTn b c x)) := fun n hn => by rw [vB_t (fun c hc => absurd hc (by omega))]; rfl
  rw [e0 0 rfl]
  refine mj_iter (fun k => (20, [some (.ref 35), some (.int (nI x)), some (.int (vB (∀ c, c < k → v.1 c = v.1 (tTn b c x)))), some (.int (nI k))], [], (fbP P (mdZ (nI 0, U.2) s g w m t c v a)))) (bn b) (fun k hk ih => ?_) ?_
  · have hlt := tTn_lt (t := x) hb hk
    have e1 : (nI k).toNatClampNeg = k := nI_clamp (by omega)
    have e2 : (nI (tTn b k x)).toNatClampNeg = tTn b k x := nI_clamp (by omega)
    rw [← nI_add k 1] at ih
    refine mj_b0 40 rfl ?_
    refine mj_brf (by rw [bd_cl h]; exact nI_ge hk (by omega)) ?_
    refine mj_b0 40 rfl ?_
    by_cases q : ∀ c, c < k → v.1 c = v.1 (tTn b c x)
    · refine mj_brf (fun z => vB_0.mp z q) ?_
      refine mj_b1 40 rfl (nI_ix (show k < 400 by omega) (by omega)) ?_
      rw [e1]
      refine mj_cV rfl rfl rfl rfl rfl rfl (m_turnedOf hb h hk hx) ?_
      refine mj_b1 40 rfl (nI_ix (show tTn b k x < 400 by omega) (by omega)) ?_
      rw [e2]
      by_cases q2 : v.1 k = v.1 (tTn b k x)
      · refine mj_brf (fun z => z q2) ?_
        refine mj_b0 5 rfl ?_
        rw [vB_t (fun c hc => by
          by_cases e : c = k
          · rw [e]; exact q2
          · exact q c (by omega))] at ih
        exact ih
      · refine mj_brt (q2) ?_
        refine mj_b0 4 rfl ?_
        rw [vB_f (fun z => q2 (z k (by omega)))] at ih
        exact ih
    · refine mj_brt (vB_0.mpr q) ?_
      refine mj_b0 4 rfl ?_
      rw [vB_f (fun z => q (fun c hc => z c (by omega)))] at ih
      exact ih
  · refine mj_b0 40 rfl ?_
    refine mj_brt (by rw [bd_cl h]; exact nI_le (by omega) (by omega)) ?_
    refine mj_b0 40 rfl ?_
    by_cases q : ∀ c, c < bn b → v.1 c = v.1 (tTn b c x)
    · refine mj_brf (fun z => vB_0.mp z q) ?_
      refine mj_b0 40 rfl ?_
      exact mj_end rfl rfl trivial ⟨by rw [vB_t q]; rfl, rfl⟩
    · refine mj_brt (vB_0.mpr q) ?_
      refine mj_b0 40 rfl ?_
      exact mj_end rfl rfl trivial ⟨by rw [vB_f q]; rfl, rfl⟩
end LIm
section LIS
variable {d : Nat}
theorem smF_sm (f : fA) : ∀ n, smF f 0 n = sm f n
  | 0 => rfl
  | n + 1 => by
    simp only [smF, sm]
    rw [smF_sm f n, Nat.zero_add]
theorem smF_cong {f f' : fA} {i : Nat} : ∀ {n : Nat}, (∀ k, i ≤ k → k < i + n → f k = f' k) → smF f i n = smF f' i n
  | 0, _ => rfl
  | n + 1, h => by
    simp only [smF]
    rw [smF_cong (fun k h1 h2 => h k h1 (by omega)), h (i + n) (by omega) (by omega)]
theorem sm_add (f : fA) (i : Nat) : ∀ n, sm f (i + n) = sm f i + smF f i n
  | 0 => by
    show sm f i = sm f i + nI 0
    rw [show nI 0 = 0 from rfl, Int32.add_zero]
  | n + 1 => by
    show sm f (i + n) + f (i + n) = sm f i + (smF f i n + f (i + n))
    rw [sm_add f i n, Int32.add_assoc]
theorem sm_0 {f : fA} : ∀ {n : Nat}, (∀ k, k < n → f k = nI 0) → sm f n = nI 0
  | 0, _ => rfl
  | n + 1, h => by
    simp only [sm]
    rw [sm_0 (fun k hk => h k (by omega)), h n (by omega)]
    rfl
theorem smF_0 {f : fA} {i : Nat} : ∀ {n : Nat}, (∀ k, i ≤ k → k < i + n → f k = nI 0) → smF f i n = nI 0
  | 0, _ => rfl
  | n + 1, h => by
    simp only [smF]
    rw [smF_0 (fun k h1 h2 => h k h1 (by omega)), h (i + n) (by omega) (by omega)]
    rfl
set_option maxRecDepth 100000 in
theorem kB11_all : (kall 22 fun b => kall (br b + 1) (fun k => kall (bn b) (fun c => cond (Nat.beq (tRo b c) k) (Nat.ble (bRs b k) c && Nat.blt c (bRs b (k + 1))) (!(Nat.ble (bRs b k) c && Nat.blt c (bRs b (k + 1))))))) = true := by decide +kernel
theorem tb11 {b c k : Nat} (hb : b < 22) (hk : k ≤ br b) (hc : c < bn b) : tRo b c = k ↔ (bRs b k ≤ c ∧ c < bRs b (k + 1)) := by
  have h := kall_ok (kall_ok (kall_ok kB11_all b hb) k (by omega)) c hc
  have h1 : Nat.beq (tRo b c) k = (Nat.ble (bRs b k) c && Nat.blt c (bRs b (k + 1))) := by
    generalize Nat.beq (tRo b c) k = x at h ⊢
    generalize (Nat.ble (bRs b k) c && Nat.blt c (bRs b (k + 1))) = y at h ⊢
    cases x <;> cases y <;> first | rfl | cases h
  constructor
  · intro q
    rw [q, Nat.beq_refl] at h1
    have h2 := h1.symm
    rw [Bool.and_eq_true] at h2
    exact ⟨Nat.le_of_ble_eq_true h2.1, mj_blt h2.2⟩
  · rintro ⟨q1, q2⟩
    rw [Nat.ble_eq_true_of_le q1, show Nat.blt c (bRs b (k + 1)) = true from Nat.ble_eq_true_of_le q2] at h1
    exact Nat.eq_of_beq_eq_true h1
/-- a ring's ones, counted over all cells or over its own -/
theorem ring_sum {b k : Nat} {v : fA} (hb : b < 22) (hk : k ≤ br b) : sm (fun j => if nI k = NO ∨ nI (tRo b j) = nI k then v j else nI 0) (bn b) = smF v (bRs b k) (tSz b k) := by
  have t0 := tb0 hb
  have h1 := t0.2.2.2.2.2.2.2 k hk
  have h2 := tb_rs' hb (show k + 1 ≤ br b + 1 by omega)
  have ht : tSz b k = bRs b (k + 1) - bRs b k := rfl
  have e1 : bn b = bRs b k + (tSz b k + (bn b - bRs b (k + 1))) := by omega
  have hf : ∀ j, j < bn b → (if nI k = NO ∨ nI (tRo b j) = nI k then v j else nI 0) = (if bRs b k ≤ j ∧ j < bRs b (k + 1) then v j else nI 0) := by
    intro j hj
    have t1 := tb1 hb hj
    by_cases q : tRo b j = k
    · rw [if_pos (Or.inr (by rw [q])), if_pos ((tb11 hb hk hj).mp q)]
    · rw [if_neg (fun z => z.elim (fun y => nI_ne_NO (by omega) y) (fun y => q ((nI_eq (by omega) (by omega)).mp y))), if_neg (fun z => q ((tb11 hb hk hj).mpr z))]
  rw [sm_cong hf]
  generalize hg : (fun j => if bRs b k ≤ j ∧ j < bRs b (k + 1) then v j else nI 0) = gg
  have g1 : ∀ j, gg j = if bRs b k ≤ j ∧ j < bRs b (k + 1) then v j else nI 0 := fun j => by rw [← hg]
  have s1 : sm gg (bRs b k) = nI 0 := sm_0 (fun j hj => by rw [g1, if_neg (by omega)])
  have s2 : smF gg (bRs b k) (tSz b k) = smF v (bRs b k) (tSz b k) := smF_cong (fun j h1 h2 => by rw [g1, if_pos (by omega)])
  have s3 : smF gg (bRs b k + tSz b k) (bn b - bRs b (k + 1)) = nI 0 := smF_0 (fun j h1 h2 => by rw [g1, if_neg (by omega)])
  rw [e1, ← Nat.add_assoc, sm_add, sm_add, s1, s2, s3]
  rw [show nI 0 = 0 from rfl, Int32.add_zero, Int32.zero_add]
/-- promise 27 -/
theorem s_living (x : Int32) : Sim (d + 3) nX8_living nX9_living [.int x] := by
  intro P z hr
  obtain ⟨U, s, g, w, m, t, c, v, a⟩ := z
  obtain ⟨sc, F, S, G, Y, M, T, C, V, A⟩ := P
  obtain ⟨b, hb, h1, h2, h3, h4, h5, h6, h7, h8, h9, ⟨hq, hl⟩, h11⟩ := id hr
  have t0 := tb0 hb
  have h : Bd b G := h1
  have h' : Bd b g := h2
  have hl' : ∀ c, c < bn b → lvs V c = v.1 c ∧ (v.1 c = nI 0 ∨ v.1 c = nI 1) := hl
  by_cases q0 : x = NO
  · subst q0
    refine ⟨sm v.1 (bn b), (sc, F, S, G, Y, M, T, C, V, A), ((nI 0, U.2), s, g, w, m, t, c, v, a), ?_, ?_, hr.thrown⟩
    · refine mj_C.of rfl rfl rfl ?_
      refine mj_b0 40 rfl ?_
      refine mj_brf (show ¬ ¬ NO = NO from fun z => z rfl) ?_
      refine mj_b0 40 rfl ?_
      refine mj_sq (S' := (18, [some (.ref 1), some (.int NO)], [.int (nI (0 + bn b)), .int (nI 0), .ref 30], fbH sc F S G Y M T C V A (mdz (U, s, g, w, m, t, c, v, a)))) (by rw [show nI (0 + bn b) = gcl G by rw [Nat.zero_add, bd_cl h]] <;> rfl) ?_
      refine mj_cV rfl rfl rfl rfl rfl rfl (x_countIn hq (show 0 + bn b ≤ 400 by omega)) ?_
      exact mj_end rfl rfl trivial ⟨by rw [smF_sm, sm_cong (fun k hk => (hl' k hk).1)], rfl⟩
    · refine mj_C.of rfl rfl rfl ?_
      refine mj_b0 40 rfl ?_
      refine mj_hq (h' := fbP (sc, F, S, G, Y, M, T, C, V, A) (mdZ (nI 0, U.2) s g w m t c v a)) rfl ?_
      refine mj_brt (show NO = NO from rfl) ?_
      refine mj_b0 40 rfl ?_
      refine mj_cV rfl rfl rfl rfl rfl rfl (m_livingIn hb h' (fun c hc => (hl' c hc).2)) ?_
      exact mj_end rfl rfl trivial ⟨by rw [sm_cong (fun k _ => if_pos (Or.inl rfl))], rfl⟩
  · by_cases q : ¬ x < 0 ∧ ¬ nI (br b) < x
    · rcases ixn x (n := br b + 1) (by omega) with ⟨-, z⟩ | ⟨k, hj, rfl⟩
      · exact absurd q (nin_no (by omega) z)
      have hk : k ≤ br b := by omega
      have hrs := t0.2.2.2.2.2.2.2 k hk
      have hrs2 := tb_rs' hb (show k + 1 ≤ br b + 1 by omega)
      have ht : tSz b k = bRs b (k + 1) - bRs b k := rfl
      refine ⟨smF v.1 (bRs b k) (tSz b k), (sc, F, S, G, Y, M, T, C, V, A), ((nI 0, U.2), s, g, w, m, t, c, v, a), ?_, ?_, hr.thrown⟩
      · have e5 : nI k + mj_kc 1 = nI (k + 1) := nI_add k 1
        have e4 : (nI (k + 1)).toNatClampNeg = k + 1 := nI_clamp (by omega)
        have e3 : (nI k).toNatClampNeg = k := nI_clamp (by omega)
        refine mj_C.of rfl rfl rfl ?_
        refine mj_b0 40 rfl ?_
        refine mj_brt (q0) ?_
        refine mj_b0 40 rfl ?_
        refine mj_cV rfl rfl rfl rfl rfl rfl (c_hasRing h (nI k)) ?_
        refine mj_b0 40 rfl ?_
        refine mj_brt (fun z => vB_0.mp z q) ?_
        refine mj_b1 40 rfl (by
          show vp_in (nI k) 7 ∧ vp_in (nI k + mj_kc 1) 7
          rw [e5]
          exact ⟨nI_ix (by omega) (by omega), nI_ix (by omega) (by omega)⟩) ?_
        refine mj_sq (S' := (60, [some (.ref 1), some (.int (nI k))], [.int (nI (bRs b k + tSz b k)), .int (nI (bRs b k)), .ref 30], fbH sc F S G Y M T C V A (mdz (U, s, g, w, m, t, c, v, a)))) (by
          rw [e5, e4, e3, show bRs b k + tSz b k = bRs b (k + 1) by omega, ← bd_rs h (show k ≤ br b + 1 by omega), ← bd_rs h (show k + 1 ≤ br b + 1 by omega)]) ?_
        refine mj_cV rfl rfl rfl rfl rfl rfl (x_countIn hq (show bRs b k + tSz b k ≤ 400 by omega)) ?_
        exact mj_end rfl rfl trivial ⟨by rw [smF_cong (fun k h1 h2 => (hl' k (by omega)).1)], rfl⟩
      · refine mj_C.of rfl rfl rfl ?_
        refine mj_b0 40 rfl ?_
        refine mj_hq (h' := fbP (sc, F, S, G, Y, M, T, C, V, A) (mdZ (nI 0, U.2) s g w m t c v a)) rfl ?_
        refine mj_brf (q0) ?_
        refine mj_b0 40 rfl ?_
        refine mj_sq (S' := (19, [some (.ref 35), some (.int (nI k))], [.long (nI (br b)).toInt64, .long (Int64.ofNat 0), .long (nI k).toInt64], fbP (sc, F, S, G, Y, M, T, C, V, A) (mdZ (nI 0, U.2) s g w m t c v a))) (by rw [← bd_rg h']; rfl) ?_
        refine mj_cS rfl rfl rfl rfl (m_in32 (nI k) 0 (nI (br b)) (by decide) rfl) ?_
        refine mj_b0 40 rfl ?_
        refine mj_brt (fun z => vB_0.mp z q) ?_
        refine mj_b0 40 rfl ?_
        refine mj_cV rfl rfl rfl rfl rfl rfl (m_livingIn hb h' (fun c hc => (hl' c hc).2)) ?_
        exact mj_end rfl rfl trivial ⟨by rw [ring_sum hb hk], rfl⟩
    · refine ⟨BD, (sc, F, S, G, Y, M, T, C, V, A), ((nI 0, U.2), s, g, w, m, t, c, v, a), ?_, ?_, hr.thrown⟩
      · refine mj_C.of rfl rfl rfl ?_
        refine mj_b0 40 rfl ?_
        refine mj_brt (q0) ?_
        refine mj_b0 40 rfl ?_
        refine mj_cV rfl rfl rfl rfl rfl rfl (c_hasRing h x) ?_
        refine mj_b0 40 rfl ?_
        refine mj_brf (fun z => z (vB_0.mpr q)) ?_
        refine mj_b0 40 rfl ?_
        exact mj_end rfl rfl trivial ⟨rfl, rfl⟩
      · refine mj_C.of rfl rfl rfl ?_
        refine mj_b0 40 rfl ?_
        refine mj_hq (h' := fbP (sc, F, S, G, Y, M, T, C, V, A) (mdZ (nI 0, U.2) s g w m t c v a)) rfl ?_
        refine mj_brf (q0) ?_
        refine mj_b0 40 rfl ?_
        refine mj_sq (S' := (19, [some (.ref 35), some (.int x)], [.long (nI (br b)).toInt64, .long (Int64.ofNat 0), .long x.toInt64], fbP (sc, F, S, G, Y, M, T, C, V, A) (mdZ (nI 0, U.2) s g w m t c v a))) (by rw [← bd_rg h']; rfl) ?_
        refine mj_cS rfl rfl rfl rfl (m_in32 x 0 (nI (br b)) (by decide) rfl) ?_
        refine mj_b0 40 rfl ?_
        refine mj_brf (fun z => z (vB_0.mpr q)) ?_
        refine mj_b0 40 rfl ?_
        exact mj_end rfl rfl trivial ⟨rfl, rfl⟩
/-- promise 29 -/
theorem s_alike (x : Int32) : Sim (d + 5) nX8_alike nX9_alike [.int x] := by
  intro P z hr
  obtain ⟨U, s, g, w, m, t, c, v, a⟩ := z
  obtain ⟨sc, F, S, G, Y, M, T, C, V, A⟩ := P
  obtain ⟨b, hb, h1, h2, h3, h4, h5, h6, h7, h8, h9, ⟨hq, hl⟩, h11⟩ := id hr
  have t0 := tb0 hb
  have h : Bd b G := h1
  have h' : Bd b g := h2
  have hl' : ∀ c, c < bn b → lvs V c = v.1 c ∧ (v.1 c = nI 0 ∨ v.1 c = nI 1) := hl
  by_cases q : ¬ x < 0 ∧ ¬ nI (bp b) ≤ x
  · rcases ixp hb x with z | ⟨k, hk, rfl⟩
    · exact absurd q z
    refine ⟨vB (∀ c, c < bn b → v.1 c = v.1 (tTn b c k)), (sc, F, S, G, Y, M, T, C, V, A), ((nI 0, U.2), s, g, w, m, t, c, v, a), ?_, m_alike hb h' hk, hr.thrown⟩
    have e : (∀ c, c < bn b → lvs V c = lvs V (tTn b c k)) ↔ (∀ c, c < bn b → v.1 c = v.1 (tTn b c k)) := by
      constructor
      · intro z c hc
        rw [← (hl' c hc).1, ← (hl' _ (tTn_lt hb hc)).1]
        exact z c hc
      · intro z c hc
        rw [(hl' c hc).1, (hl' _ (tTn_lt hb hc)).1]
        exact z c hc
    rw [← vB_congr e]
    refine mj_C.of rfl rfl rfl ?_
    refine mj_b0 40 rfl ?_
    refine mj_cV rfl rfl rfl rfl rfl rfl (c_isTurn h (nI k)) ?_
    refine mj_b0 40 rfl ?_
    refine mj_brt (fun z => vB_0.mp z q) ?_
    refine mj_b0 40 rfl ?_
    refine mj_cV rfl rfl rfl rfl rfl rfl (x_same hq hb h hk) ?_
    refine mj_b0 40 rfl ?_
    by_cases q2 : ∀ c, c < bn b → lvs V c = lvs V (tTn b c k)
    · refine mj_brf (fun z => vB_0.mp z q2) ?_
      refine mj_b0 40 rfl ?_
      exact mj_end rfl rfl trivial ⟨by rw [vB_t q2]; rfl, rfl⟩
    · refine mj_brt (vB_0.mpr q2) ?_
      refine mj_b0 40 rfl ?_
      exact mj_end rfl rfl trivial ⟨by rw [vB_f q2]; rfl, rfl⟩
  · refine ⟨BD, (sc, F, S, G, Y, M, T, C, V, A), ((nI 0, U.2), s, g, w, m, t, c, v, a), ?_, ?_, hr.thrown⟩
    · refine mj_C.of rfl rfl rfl ?_
      refine mj_b0 40 rfl ?_
      refine mj_cV rfl rfl rfl rfl rfl rfl (c_isTurn h x) ?_
      refine mj_b0 40 rfl ?_
      refine mj_brf (fun z => z (vB_0.mpr q)) ?_
      refine mj_b0 40 rfl ?_
      exact mj_end rfl rfl trivial ⟨rfl, rfl⟩
    · refine mj_C.of rfl rfl rfl ?_
      refine mj_b0 40 rfl ?_
      refine mj_hq (h' := fbP (sc, F, S, G, Y, M, T, C, V, A) (mdZ (nI 0, U.2) s g w m t c v a)) rfl ?_
      refine mj_cV rfl rfl rfl rfl rfl rfl (xm_isSide hb h' x) ?_
      refine mj_b0 40 rfl ?_
      refine mj_brf (fun z => z (vB_0.mpr q)) ?_
      refine mj_b0 40 rfl ?_
      exact mj_end rfl rfl trivial ⟨rfl, rfl⟩
end LIS
