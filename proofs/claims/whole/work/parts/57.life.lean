/-! promises 25, 27 and 29, side by side -/
def LvR (b : Nat) (l v : fA) : Prop := ∀ c, c < bn b → l c = v c ∧ (v c = nI 0 ∨ v c = nI 1)
theorem LvR.upd {b k : Nat} {l v : fA} {x : Int32} (h : LvR b l v) (hx : x = nI 0 ∨ x = nI 1) : LvR b (upd l k x) (upd v k x) := by
  intro c hc
  by_cases e : c = k
  · rw [e, pk_us, pk_us]
    exact ⟨rfl, hx⟩
  · rw [pk_un e, pk_un e]
    exact h c hc
/-- sums from a place on -/
def smF (f : fA) (i : Nat) : Nat → Int32
  | 0 => nI 0
  | n + 1 => smF f i n + f (i + n)
section LI
variable {sc : mj_E} {F : Int32 × Int32} {S : fA × fA × fA} {G : fG} {Y : fY} {M : fM} {T : fT} {C : fA × fA} {l1 l2 : fA} {A : fA × Int32} {Z : mj_H} {d : Nat}
theorem c_countIn_a {i n : Nat} (hn : i + n ≤ 400) : mj_C (d + 1) nX3_countIn [.ref 28, .int (nI i), .int (nI (i + n))] (fbH sc F S G Y M T C (l1, l2, 29, 30) A Z) (some (.int (smF l1 i n))) (fbH sc F S G Y M T C (l1, l2, 29, 30) A Z) := by
  refine mj_C.of rfl rfl rfl ?_
  refine mj_b0 4 rfl ?_
  refine mj_iter (fun k => (5, [some (.ref 28), some (.int (nI i)), some (.int (nI (i + n))), some (.int (smF l1 i k)), some (.int (nI (i + k)))], [], fbH sc F S G Y M T C (l1, l2, 29, 30) A Z)) n (fun k hk ih => ?_) ?_
  · have e1 : (nI (i + k)).toNatClampNeg = i + k := nI_clamp (by omega)
    refine mj_b0 40 rfl ?_
    refine mj_brf (nI_ge (by omega) (by omega)) ?_
    refine mj_b0 40 rfl ?_
    refine mj_brf (show ¬ nI 400 ≤ nI (i + k) from nI_ge (by omega) (by omega)) ?_
    refine mj_b1 7 rfl (nI_ix (show i + k < 400 by omega) (by omega)) ?_
    rw [e1]
    refine mj_b0 2 rfl ?_
    rw [← Nat.add_assoc, ← nI_add (i + k) 1] at ih
    exact ih
  · refine mj_b0 40 rfl ?_
    refine mj_brt (nI_le (by omega) (by omega)) ?_
    refine mj_b0 40 rfl ?_
    exact mj_end rfl rfl trivial ⟨rfl, rfl⟩
theorem c_same_a {b t : Nat} (hb : b < 22) (h : Bd b G) (ht : t < bp b) : mj_C (d + 4) nX3_isSameTurned [.ref 28, .int (nI t)] (fbH sc F S G Y M T C (l1, l2, 29, 30) A Z) (some (.int (vB (∀ c, c < bn b → l1 c = l1 (tTn b c t))))) (fbH sc F S G Y M T C (l1, l2, 29, 30) A Z) := by
  have t0 := tb0 hb
  refine mj_C.of rfl rfl rfl ?_
  refine mj_b0 2 rfl ?_
  have main : ∀ j k, j + k = bn b → (∀ c, c < k → l1 c = l1 (tTn b c t)) → mj_R (mj_C (d + 3)) 3 false (some .boolean) iX3_isSameTurned (2, [some (.ref 28), some (.int (nI t)), some (.int (nI k))], [], fbH sc F S G Y M T C (l1, l2, 29, 30) A Z) (fun r2 h2 => r2 = some (.int (vB (∀ c, c < bn b → l1 c = l1 (tTn b c t)))) ∧ h2 = fbH sc F S G Y M T C (l1, l2, 29, 30) A Z) := by
    intro j
    induction j with
    | zero =>
      intro k hk hp
      refine mj_b0 40 rfl ?_
      refine mj_brt (by rw [bd_cl h]; exact nI_le (by omega) (by omega)) ?_
      refine mj_b0 40 rfl ?_
      exact mj_end rfl rfl (Or.inr rfl) ⟨by rw [vB_t (fun c hc => hp c (by omega))]; rfl, rfl⟩
    | succ j ih =>
      intro k hk hp
      have hkb : k < bn b := by omega
      have hlt := tTn_lt (t := t) hb hkb
      have e1 : (nI k).toNatClampNeg = k := nI_clamp (by omega)
      have e2 : (nI (tTn b k t)).toNatClampNeg = tTn b k t := nI_clamp (by omega)
      refine mj_b0 40 rfl ?_
      refine mj_brf (by rw [bd_cl h]; exact nI_ge hkb (by omega)) ?_
      refine mj_b1 40 rfl (nI_ix (show k < 400 by omega) (by omega)) ?_
      rw [e1]
      refine mj_cV rfl rfl rfl rfl rfl rfl (c_turn hb h hkb ht) ?_
      refine mj_b1 40 rfl (nI_ix (show tTn b k t < 400 by omega) (by omega)) ?_
      rw [e2]
      by_cases q : l1 k = l1 (tTn b k t)
      · refine mj_brt (q) ?_
        refine mj_b0 2 rfl ?_
        have i2 := ih (k + 1) (by omega) (fun c hc => by
          by_cases e : c = k
          · rw [e]; exact q
          · exact hp c (by omega))
        rw [← nI_add k 1] at i2
        exact i2
      · refine mj_brf (q) ?_
        refine mj_b0 40 rfl ?_
        exact mj_end rfl rfl (Or.inl rfl) ⟨by rw [vB_f (fun z => q (z k hkb))]; rfl, rfl⟩
  exact main (bn b) 0 (by omega) (fun c hc => absurd hc (by omega))
theorem c_countIn_b {i n : Nat} (hn : i + n ≤ 400) : mj_C (d + 1) nX3_countIn [.ref 28, .int (nI i), .int (nI (i + n))] (fbH sc F S G Y M T C (l1, l2, 30, 29) A Z) (some (.int (smF l2 i n))) (fbH sc F S G Y M T C (l1, l2, 30, 29) A Z) := by
  refine mj_C.of rfl rfl rfl ?_
  refine mj_b0 4 rfl ?_
  refine mj_iter (fun k => (5, [some (.ref 28), some (.int (nI i)), some (.int (nI (i + n))), some (.int (smF l2 i k)), some (.int (nI (i + k)))], [], fbH sc F S G Y M T C (l1, l2, 30, 29) A Z)) n (fun k hk ih => ?_) ?_
  · have e1 : (nI (i + k)).toNatClampNeg = i + k := nI_clamp (by omega)
    refine mj_b0 40 rfl ?_
    refine mj_brf (nI_ge (by omega) (by omega)) ?_
    refine mj_b0 40 rfl ?_
    refine mj_brf (show ¬ nI 400 ≤ nI (i + k) from nI_ge (by omega) (by omega)) ?_
    refine mj_b1 7 rfl (nI_ix (show i + k < 400 by omega) (by omega)) ?_
    rw [e1]
    refine mj_b0 2 rfl ?_
    rw [← Nat.add_assoc, ← nI_add (i + k) 1] at ih
    exact ih
  · refine mj_b0 40 rfl ?_
    refine mj_brt (nI_le (by omega) (by omega)) ?_
    refine mj_b0 40 rfl ?_
    exact mj_end rfl rfl trivial ⟨rfl, rfl⟩
theorem c_same_b {b t : Nat} (hb : b < 22) (h : Bd b G) (ht : t < bp b) : mj_C (d + 4) nX3_isSameTurned [.ref 28, .int (nI t)] (fbH sc F S G Y M T C (l1, l2, 30, 29) A Z) (some (.int (vB (∀ c, c < bn b → l2 c = l2 (tTn b c t))))) (fbH sc F S G Y M T C (l1, l2, 30, 29) A Z) := by
  have t0 := tb0 hb
  refine mj_C.of rfl rfl rfl ?_
  refine mj_b0 2 rfl ?_
  have main : ∀ j k, j + k = bn b → (∀ c, c < k → l2 c = l2 (tTn b c t)) → mj_R (mj_C (d + 3)) 3 false (some .boolean) iX3_isSameTurned (2, [some (.ref 28), some (.int (nI t)), some (.int (nI k))], [], fbH sc F S G Y M T C (l1, l2, 30, 29) A Z) (fun r2 h2 => r2 = some (.int (vB (∀ c, c < bn b → l2 c = l2 (tTn b c t)))) ∧ h2 = fbH sc F S G Y M T C (l1, l2, 30, 29) A Z) := by
    intro j
    induction j with
    | zero =>
      intro k hk hp
      refine mj_b0 40 rfl ?_
      refine mj_brt (by rw [bd_cl h]; exact nI_le (by omega) (by omega)) ?_
      refine mj_b0 40 rfl ?_
      exact mj_end rfl rfl (Or.inr rfl) ⟨by rw [vB_t (fun c hc => hp c (by omega))]; rfl, rfl⟩
    | succ j ih =>
      intro k hk hp
      have hkb : k < bn b := by omega
      have hlt := tTn_lt (t := t) hb hkb
      have e1 : (nI k).toNatClampNeg = k := nI_clamp (by omega)
      have e2 : (nI (tTn b k t)).toNatClampNeg = tTn b k t := nI_clamp (by omega)
      refine mj_b0 40 rfl ?_
      refine mj_brf (by rw [bd_cl h]; exact nI_ge hkb (by omega)) ?_
      refine mj_b1 40 rfl (nI_ix (show k < 400 by omega) (by omega)) ?_
      rw [e1]
      refine mj_cV rfl rfl rfl rfl rfl rfl (c_turn hb h hkb ht) ?_
      refine mj_b1 40 rfl (nI_ix (show tTn b k t < 400 by omega) (by omega)) ?_
      rw [e2]
      by_cases q : l2 k = l2 (tTn b k t)
      · refine mj_brt (q) ?_
        refine mj_b0 2 rfl ?_
        have i2 := ih (k + 1) (by omega) (fun c hc => by
          by_cases e : c = k
          · rw [e]; exact q
          · exact hp c (by omega))
        rw [← nI_add k 1] at i2
        exact i2
      · refine mj_brf (q) ?_
        refine mj_b0 40 rfl ?_
        exact mj_end rfl rfl (Or.inl rfl) ⟨by rw [vB_f (fun z => q (z k hkb))]; rfl, rfl⟩
  exact main (bn b) 0 (by omega) (fun c hc => absurd hc (by omega))
end LI
section LI2
variable {sc : mj_E} {F : Int32 × Int32} {S : fA × fA × fA} {G : fG} {Y : fY} {M : fM} {T : fT} {C : fA × fA} {V : fV} {A : fA × Int32} {Z : mj_H} {d : Nat}
theorem x_countIn (hq : V.2.2 = (29, 30) ∨ V.2.2 = (30, 29)) {i n : Nat} (hn : i + n ≤ 400) : mj_C (d + 1) nX3_countIn [.ref 28, .int (nI i), .int (nI (i + n))] (fbH sc F S G Y M T C V A Z) (some (.int (smF (lvs V) i n))) (fbH sc F S G Y M T C V A Z) := by
  obtain ⟨l1, l2, q⟩ := V
  rcases hq with z | z
  · have z' : q = (29, 30) := z
    subst z'
    exact c_countIn_a hn
  · have z' : q = (30, 29) := z
    subst z'
    exact c_countIn_b hn
theorem x_same (hq : V.2.2 = (29, 30) ∨ V.2.2 = (30, 29)) {b t : Nat} (hb : b < 22) (h : Bd b G) (ht : t < bp b) : mj_C (d + 4) nX3_isSameTurned [.ref 28, .int (nI t)] (fbH sc F S G Y M T C V A Z) (some (.int (vB (∀ c, c < bn b → lvs V c = lvs V (tTn b c t))))) (fbH sc F S G Y M T C V A Z) := by
  obtain ⟨l1, l2, q⟩ := V
  rcases hq with z | z
  · have z' : q = (29, 30) := z
    subst z'
    exact c_same_a hb h ht
  · have z' : q = (30, 29) := z
    subst z'
    exact c_same_b hb h ht
end LI2
section LIm
variable {P : fP} {U : fU} {s : fA × fA × fA} {g : fG} {w : fW} {m : fM} {t : fR} {c : fA × fA × fA} {v : fA × fA} {a : fA × Int32} {d : Nat}
/-- the ones that live: all (r = NO), or a ring's -/
theorem m_livingIn {b : Nat} {r : Int32} (hb : b < 22) (h : Bd b g) (hl : ∀ c, c < bn b → v.1 c = nI 0 ∨ v.1 c = nI 1) : mj_C (d + 1) nX9_livingIn [.ref 33, .int r] (fbP P (mdZ U s g w m t c v a)) (some (.int (sm (fun k => if r = NO ∨ nI (tRo b k) = r then v.1 k else nI 0) (bn b)))) (fbP P (mdZ U s g w m t c v a)) := by
  have t0 := tb0 hb
  refine mj_C.of rfl rfl rfl ?_
  refine mj_b0 4 rfl ?_
  refine mj_iter (fun k => (4, [some (.ref 33), some (.int r), some (.int (sm (fun k => if r = NO ∨ nI (tRo b k) = r then v.1 k else nI 0) k)), some (.int (nI k))], [], (fbP P (mdZ U s g w m t c v a)))) (bn b) (fun k hk ih => ?_) ?_
  · have e1 : (nI k).toNatClampNeg = k := nI_clamp (by omega)
    have z0 : ∀ z : Int32, z = (if r = NO ∨ nI (tRo b k) = r then v.1 k else nI 0) → mj_R (mj_C d) 9 false (some .int) iX9_livingIn (43, [some (.ref 33), some (.int r), some (.int (sm (fun k => if r = NO ∨ nI (tRo b k) = r then v.1 k else nI 0) k)), some (.int (nI k))], [.int z, .int (sm (fun k => if r = NO ∨ nI (tRo b k) = r then v.1 k else nI 0) k)], (fbP P (mdZ U s g w m t c v a))) (fun r2 h2 => r2 = some (.int (sm (fun k => if r = NO ∨ nI (tRo b k) = r then v.1 k else nI 0) (bn b))) ∧ h2 = (fbP P (mdZ U s g w m t c v a))) := by
      intro z hz
      refine mj_b0 4 rfl ?_
      subst hz
      rw [← nI_add k 1] at ih
      exact ih
    refine mj_b0 40 rfl ?_
    refine mj_brf (by rw [bd_cl h]; exact nI_ge hk (by omega)) ?_
    refine mj_b1 40 rfl (nI_ix (show k < 400 by omega) (by omega)) ?_
    rw [e1]
    by_cases q : v.1 k = nI 0
    · refine mj_brt (q) ?_
      refine mj_b0 1 rfl ?_
      exact z0 (nI 0) (by rw [q]; split <;> rfl)
    · have q1 := (hl k hk).resolve_left q
      refine mj_brf (q) ?_
      refine mj_b0 40 rfl ?_
      by_cases q2 : r = NO
      · refine mj_brt (q2) ?_
        refine mj_b0 2 rfl ?_
        exact z0 (nI 1) (by rw [if_pos (Or.inl q2), q1])
      · refine mj_brf (q2) ?_
        refine mj_b1 40 rfl (nI_ix (show k < 400 by omega) (by omega)) ?_
        rw [e1, bd_ro h hk]
        by_cases q3 : nI (tRo b k) = r
        · refine mj_brf (fun z => z q3) ?_
          refine mj_b0 2 rfl ?_
          exact z0 (nI 1) (by rw [if_pos (Or.inr q3), q1])
        · refine mj_brt (q3) ?_
          refine mj_b0 1 rfl ?_
          exact z0 (nI 0) (by rw [if_neg (fun z => z.elim q2 q3)])
  · refine mj_b0 40 rfl ?_
    refine mj_brt (by rw [bd_cl h]; exact nI_le (by omega) (by omega)) ?_
    refine mj_b0 40 rfl ?_
    exact mj_end rfl rfl trivial ⟨rfl, rfl⟩
theorem m_alike {b x : Nat} (hb : b < 22) (h : Bd b g) (hx : x < bp b) : mj_C (d + 4) nX9_alike [.ref 33, .int (nI x)] (fbP P (mdZ U s g w m t c v a)) (some (.int (vB (∀ c, c < bn b → v.1 c = v.1 (tTn b c x))))) (fbP P (mdZ (nI 0, U.2) s g w m t c v a)) := by
  have t0 := tb0 hb
  refine mj_C.of rfl rfl rfl ?_
  refine mj_b0 40 rfl ?_
  refine mj_hq (h' := (fbP P (mdZ (nI 0, U.2) s g w m t c v a))) rfl ?_
  refine mj_cV rfl rfl rfl rfl rfl rfl (xm_isSide hb h (nI x)) ?_
  refine mj_b0 40 rfl ?_
  refine mj_brt (fun z => vB_0.mp z (okp hb hx)) ?_
  refine mj_b0 4 rfl ?_
  rw [show mj_kc 1 = vB (∀ c, c < 0 → v.1 c = v.1 (tTn b c x)) by rw [vB_t (fun c hc => absurd hc (by omega))]; rfl]
  refine mj_iter (fun k => (20, [some (.ref 33), some (.int (nI x)), some (.int (vB (∀ c, c < k → v.1 c = v.1 (tTn b c x)))), some (.int (nI k))], [], (fbP P (mdZ (nI 0, U.2) s g w m t c v a)))) (bn b) (fun k hk ih => ?_) ?_
  · have hlt := tTn_lt (t := x) hb hk
    have e1 : (nI k).toNatClampNeg = k := nI_clamp (by omega)
    have e2 : (nI (tTn b k x)).toNatClampNeg = tTn b k x := nI_clamp (by omega)
    rw [← nI_add k 1] at ih
    refine mj_b0 40 rfl ?_
    refine mj_brf (by rw [bd_cl h]; exact nI_ge hk (by omega)) ?_
    refine mj_b0 40 rfl ?_
    by_cases q : ∀ c, c < k → v.1 c = v.1 (tTn b c x)
    · refine mj_brf (fun z => vB_0.mp z q) ?_
      refine mj_b1 40 rfl (nI_ix (show k < 400 by omega) (by omega)) ?_
      rw [e1]
      refine mj_cV rfl rfl rfl rfl rfl rfl (m_turnedOf hb h hk hx) ?_
      refine mj_b1 40 rfl (nI_ix (show tTn b k x < 400 by omega) (by omega)) ?_
      rw [e2]
      by_cases q2 : v.1 k = v.1 (tTn b k x)
      · refine mj_brf (fun z => z q2) ?_
        refine mj_b0 5 rfl ?_
        rw [vB_t (fun c hc => by
          by_cases e : c = k
          · rw [e]; exact q2
          · exact q c (by omega))] at ih
        exact ih
      · refine mj_brt (q2) ?_
        refine mj_b0 4 rfl ?_
        rw [vB_f (fun z => q2 (z k (by omega)))] at ih
        exact ih
    · refine mj_brt (vB_0.mpr q) ?_
      refine mj_b0 4 rfl ?_
      rw [vB_f (fun z => q (fun c hc => z c (by omega)))] at ih
      exact ih
  · refine mj_b0 40 rfl ?_
    refine mj_brt (by rw [bd_cl h]; exact nI_le (by omega) (by omega)) ?_
    refine mj_b0 40 rfl ?_
    by_cases q : ∀ c, c < bn b → v.1 c = v.1 (tTn b c x)
    · refine mj_brf (fun z => vB_0.mp z q) ?_
      refine mj_b0 40 rfl ?_
      exact mj_end rfl rfl trivial ⟨by rw [vB_t q]; rfl, rfl⟩
    · refine mj_brt (vB_0.mpr q) ?_
      refine mj_b0 40 rfl ?_
      exact mj_end rfl rfl trivial ⟨by rw [vB_f q]; rfl, rfl⟩
end LIm
