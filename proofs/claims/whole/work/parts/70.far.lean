/-! promises 11, 12 and 14, side by side -/
def bfs (b a : Nat) : bsT := bF b (bn b) 0 (bI0 a)
theorem bfs_inv {b a : Nat} (hb : b < 22) (ha : a < bn b) : bInv b (bfs b a) := bInv.F hb _ _ _ (bInv.I hb ha)
def nrS (b : Nat) (D : Nat → Nat) (c : Nat) : Nat → Nat → Nat
  | 0, _ => 1023
  | j + 1, k => if tAt b c k ≠ 1023 ∧ D (tAt b c k) + 1 = D c then tAt b c k else nrS b D c j (k + 1)
theorem nrS_ok {b c : Nat} {D : Nat → Nat} (hb : b < 22) (hc : c < bn b) : ∀ (j k : Nat), k + j ≤ bp b → nrS b D c j k ≠ 1023 → nrS b D c j k < bn b ∧ D (nrS b D c j k) + 1 = D c
  | 0, k, _, h => absurd rfl h
  | j + 1, k, hk, h => by
    simp only [nrS] at h ⊢
    by_cases q : tAt b c k ≠ 1023 ∧ D (tAt b c k) + 1 = D c
    · rw [if_pos q]
      exact ⟨(((tb1 hb hc).2.2.2.2.2 k (by omega)).resolve_left q.1).1, q.2⟩
    · rw [if_neg q] at h ⊢
      exact nrS_ok hb hc j (k + 1) (by omega) h
theorem nrS_ne {b c : Nat} {D : Nat → Nat} (hb : b < 22) (hc : c < bn b) {s : Nat} (h1 : tAt b c s ≠ 1023) (h2 : D (tAt b c s) + 1 = D c) : ∀ (j k : Nat), k + j ≤ bp b → k ≤ s → s < k + j → nrS b D c j k ≠ 1023
  | 0, k, _, a, b => absurd b (by omega)
  | j + 1, k, hk, a1, a2 => by
    simp only [nrS]
    by_cases q : tAt b c k ≠ 1023 ∧ D (tAt b c k) + 1 = D c
    · rw [if_pos q]
      exact q.1
    · rw [if_neg q]
      have : k ≠ s := fun z => q (by rw [z]; exact ⟨h1, h2⟩)
      exact nrS_ne hb hc h1 h2 j (k + 1) (by omega) (by omega) (by omega)
theorem nr_in {b c : Nat} {t : bsT} (hb : b < 22) (hi : bInv b t) (hc : c < bn b) (h1 : t.1 c ≠ 1023) (h2 : 1 ≤ t.1 c) : nrS b t.1 c (bp b) 0 ≠ 1023 ∧ nrS b t.1 c (bp b) 0 < bn b ∧ t.1 (nrS b t.1 c (bp b) 0) + 1 = t.1 c := by
  rcases hi.2.2.2.2 c hc h1 with z | ⟨s, z1, z2, z3⟩
  · omega
  · have z4 : tAt b c s ≠ 1023 := fun z => by
      have t0 := tb0 hb
      omega
    have z5 := nrS_ne hb hc z4 z3 (bp b) 0 (by omega) (by omega) (by omega)
    exact ⟨z5, nrS_ok hb hc (bp b) 0 (by omega) z5⟩
def pth (b : Nat) (D : Nat → Nat) (a : Nat) : Nat → Nat
  | 0 => a
  | k + 1 => nrS b D (pth b D a k) (bp b) 0
theorem pth_in {b a : Nat} {t : bsT} (hb : b < 22) (hi : bInv b t) (ha : a < bn b) (h1 : t.1 a ≠ 1023) : ∀ k, k ≤ t.1 a → pth b t.1 a k < bn b ∧ t.1 (pth b t.1 a k) + k = t.1 a ∧ t.1 (pth b t.1 a k) ≠ 1023
  | 0, _ => ⟨ha, rfl, h1⟩
  | k + 1, hk => by
    obtain ⟨g1, g2, g3⟩ := pth_in hb hi ha h1 k (by omega)
    obtain ⟨k1, k2, k3⟩ := nr_in hb hi g1 g3 (by omega)
    refine ⟨k2, ?_, ?_⟩
    · show t.1 (nrS b t.1 (pth b t.1 a k) (bp b) 0) + (k + 1) = t.1 a
      omega
    · show t.1 (nrS b t.1 (pth b t.1 a k) (bp b) 0) ≠ 1023
      have := hi.d hb g1
      omega
section FR
variable {sc : mj_E} {F : Int32 × Int32} {S : fA × fA × fA} {G : fG} {yr : fA × fA × Nat × Nat} {M : fM} {T : fT} {C : fA × fA} {V : fV} {A : fA × Int32} {Z : mj_H} {d : Nat}
theorem nv_m1 {x : Nat} (h1 : 1 ≤ x) (h : x < 400) : nv x - nI 1 = nv (x - 1) := by
  rw [nv_is (by omega), nv_is (by omega), pk_sub h1]
theorem c_nearer {b c : Nat} {t : bsT} {y1 y2 y3 : fA} (hb : b < 22) (h : Bd b G) (hi : bInv b t) (hr : bRc b t y1 y2 y3) (hc : c < bn b) (h1 : t.1 c ≠ 1023) (h2 : 1 ≤ t.1 c) : mj_C (d + 2) nX7_nearer [.ref 13, .int (nI c)] (fbH sc F S G (y1, y2, y3, yr) M T C V A Z) (some (.int (nI (nrS b t.1 c (bp b) 0)))) (fbH sc F S G (y1, y2, y3, yr) M T C V A Z) := by
  have t0 := tb0 hb
  have t1 := tb1 hb hc
  have h4 : t.1 c < 400 := (hi.d hb hc).resolve_left h1
  have e1 : (nI c).toNatClampNeg = c := nI_clamp (by omega)
  have ic : vp_in (nI c) 400 := nI_ix (show c < 400 by omega) (by omega)
  have main : ∀ (j k : Nat) (o : Option Value), j + k = bp b → nrS b t.1 c j k ≠ 1023 → mj_R (mj_C (d + 1)) 7 false (some .int) iX7_nearer (2, [some (.ref 13), some (.int (nI c)), some (.int (nI k)), o], [], fbH sc F S G (y1, y2, y3, yr) M T C V A Z) (fun r2 h2 => r2 = some (.int (nI (nrS b t.1 c j k))) ∧ h2 = fbH sc F S G (y1, y2, y3, yr) M T C V A Z) := by
    intro j
    induction j with
    | zero => intro k o _ z; exact absurd rfl z
    | succ j ih =>
      intro k o hk hn
      have hkb : k < bp b := by omega
      have hx : tAt b c k = 1023 ∨ tAt b c k < bn b := (t1.2.2.2.2.2 k hkb).imp_right (fun z => z.1)
      refine mj_b0 40 rfl ?_
      refine mj_brf (by rw [bd_sd h]; exact nI_ge hkb (by omega)) ?_
      refine mj_b0 40 rfl ?_
      refine mj_cV rfl rfl rfl rfl rfl rfl (c_beyond (show c < 400 by omega) (show k < 10 by omega)) ?_
      rw [bd_at h hc hkb]
      refine mj_b0 40 rfl ?_
      refine mj_cV rfl rfl rfl rfl rfl rfl (x_has h (nv (tAt b c k))) ?_
      refine mj_b0 40 rfl ?_
      simp only [nrS] at hn ⊢
      by_cases q : tAt b c k = 1023
      · have q2 : ¬ (tAt b c k ≠ 1023 ∧ t.1 (tAt b c k) + 1 = t.1 c) := fun z => z.1 q
        rw [if_neg q2] at hn ⊢
        have ih := ih (k + 1) (some (.int (nv (tAt b c k)))) (by omega) hn
        rw [← nI_add k 1] at ih
        refine mj_brt (vB_0.mpr (fun z => (nv_has hb hx).mp z q)) ?_
        refine mj_b0 2 rfl ?_
        exact ih
      · have hx2 := hx.resolve_left q
        have e2 : (nI (tAt b c k)).toNatClampNeg = tAt b c k := nI_clamp (by omega)
        have d4 := hi.d hb hx2
        refine mj_brf (fun z => vB_0.mp z ((nv_has hb hx).mpr q)) ?_
        rw [nv_is q]
        refine mj_b1 40 rfl (⟨nI_ix (show tAt b c k < 400 by omega) (by omega), ic⟩) ?_
        rw [e1, e2, show (y1, y2, y3, yr).1 (tAt b c k) = nv (t.1 (tAt b c k)) from (hr.1 _ hx2).1, show (y1, y2, y3, yr).1 c = nv (t.1 c) from (hr.1 _ hc).1, show nv (t.1 c) - mj_kc 1 = nv (t.1 c - 1) from nv_m1 h2 h4]
        by_cases q3 : t.1 (tAt b c k) + 1 = t.1 c
        · rw [if_pos ⟨q, q3⟩]
          refine mj_brf (fun z => z (by rw [show t.1 c - 1 = t.1 (tAt b c k) by omega])) ?_
          refine mj_b0 40 rfl ?_
          exact mj_end rfl rfl trivial ⟨rfl, rfl⟩
        · have q2 : ¬ (tAt b c k ≠ 1023 ∧ t.1 (tAt b c k) + 1 = t.1 c) := fun z => q3 z.2
          rw [if_neg q2] at hn ⊢
          have ih := ih (k + 1) (some (.int (nI (tAt b c k)))) (by omega) hn
          rw [← nI_add k 1] at ih
          refine mj_brt (fun z => q3 (by have := (nv_eq (by omega) (by omega)).mp z; omega)) ?_
          refine mj_b0 2 rfl ?_
          exact ih
  refine mj_C.of rfl rfl rfl ?_
  refine mj_b0 2 rfl ?_
  exact main (bp b) 0 none (by omega) (nr_in hb hi hc h1 h2).1
/-- what is told of the way -/
def wyA (b a e : Nat) (x : Int32) : Int32 := if x ≤ nv ((bfs b e).1 a) then nI (pth b (bfs b e).1 a x.toNatClampNeg) else NO
theorem wy_in {b a e : Nat} {x : Int32} (hb : b < 22) (ha : a < bn b) (he : e < bn b) (hx : ¬ x < 0) (h : x ≤ nv ((bfs b e).1 a)) : ∃ i : Nat, x = nI i ∧ i ≤ (bfs b e).1 a ∧ (bfs b e).1 a ≠ 1023 ∧ (bfs b e).1 a < 400 := by
  have hi := bfs_inv hb he
  obtain ⟨i, hi2, rfl⟩ := nI_of hx
  rcases hi.d hb ha with q | q
  · rw [q, nv_no, Int32.le_iff_toInt_le, nI_toInt hi2] at h
    have e : (NO : Int32).toInt = -1000000 := by decide
    omega
  · rw [nv_is (by omega), nI_leI hi2 (by omega)] at h
    exact ⟨i, rfl, h, by omega, q⟩
theorem x_way {b a e : Nat} {x : Int32} {y1 y2 y3 : fA} (hb : b < 22) (h : Bd b G) (ha : a < bn b) (he : e < bn b) (hx : ¬ x < 0) : ∃ z1 z2 z3, mj_C (d + 4) nX7_cellOnTheWay [.ref 13, .int (nI a), .int (nI e), .int x] (fbH sc F S G (y1, y2, y3, yr) M T C V A Z) (some (.int (wyA b a e x))) (fbH sc F S G (z1, z2, z3, yr) M T C V A Z) := by
  have t0 := tb0 hb
  have hi := bfs_inv hb he
  have e1 : (nI a).toNatClampNeg = a := nI_clamp (by omega)
  obtain ⟨z1, z2, z3, g1, g2⟩ := x_measure (sc := sc) (F := F) (S := S) (yr := yr) (M := M) (T := T) (C := C) (V := V) (A := A) (Z := Z) (d := d) (y1 := y1) (y2 := y2) (y3 := y3) hb h he
  have g1' : bRc b (bfs b e) z1 z2 z3 := g1
  refine ⟨z1, z2, z3, ?_⟩
  refine mj_C.of rfl rfl rfl ?_
  refine mj_b0 40 rfl ?_
  refine mj_cV rfl rfl rfl rfl rfl rfl (g2) ?_
  refine mj_b1 40 rfl (nI_ix (show a < 400 by omega) (by omega)) ?_
  rw [e1, show (z1, z2, z3, yr).1 a = nv ((bfs b e).1 a) from (g1'.1 a ha).1]
  by_cases q : x ≤ nv ((bfs b e).1 a)
  · obtain ⟨i, rfl, i1, i2, i3⟩ := wy_in hb ha he hx q
    have e2 : (nI i).toNatClampNeg = i := nI_clamp (by omega)
    refine mj_brt (q) ?_
    refine mj_b0 4 rfl ?_
    refine mj_iter (fun k => (24, [some (.ref 13), some (.int (nI a)), some (.int (nI e)), some (.int (nI i)), some (.int (nI (pth b (bfs b e).1 a k))), some (.int (nI k))], [], fbH sc F S G (z1, z2, z3, yr) M T C V A Z)) i (fun k hk ih => ?_) ?_
    · obtain ⟨p1, p2, p3⟩ := pth_in hb hi ha i2 k (by omega)
      rw [← nI_add k 1] at ih
      refine mj_b0 40 rfl ?_
      refine mj_brf (nI_ge hk (by omega)) ?_
      refine mj_b0 40 rfl ?_
      refine mj_brf (show ¬ nI 400 ≤ nI k from nI_ge (by omega) (by omega)) ?_
      refine mj_b0 40 rfl ?_
      refine mj_cV rfl rfl rfl rfl rfl rfl (c_nearer hb h hi g1' p1 p3 (by omega)) ?_
      refine mj_b0 3 rfl ?_
      exact ih
    · refine mj_b0 40 rfl ?_
      refine mj_brt (nI_le (by omega) (by omega)) ?_
      refine mj_b0 40 rfl ?_
      exact mj_end rfl rfl trivial ⟨by unfold wyA; rw [if_pos q, e2], rfl⟩
  · refine mj_brf (q) ?_
    refine mj_b0 40 rfl ?_
    exact mj_end rfl rfl trivial ⟨by unfold wyA; rw [if_neg q], rfl⟩
theorem x_around {b c : Nat} {x : Int32} {y1 y2 y3 : fA} (hb : b < 22) (h : Bd b G) (hc : c < bn b) : ∃ z1 z2 z3, mj_C (d + 4) nX7_countAt [.ref 13, .int (nI c), .int x] (fbH sc F S G (y1, y2, y3, yr) M T C V A Z) (some (.int (sm (fun k => if nv ((bfs b c).1 k) = x then nI 1 else nI 0) (bn b)))) (fbH sc F S G (z1, z2, z3, yr) M T C V A Z) := by
  have t0 := tb0 hb
  obtain ⟨z1, z2, z3, g1, g2⟩ := x_measure (sc := sc) (F := F) (S := S) (yr := yr) (M := M) (T := T) (C := C) (V := V) (A := A) (Z := Z) (d := d) (y1 := y1) (y2 := y2) (y3 := y3) hb h hc
  have g1' : bRc b (bfs b c) z1 z2 z3 := g1
  refine ⟨z1, z2, z3, ?_⟩
  refine mj_C.of rfl rfl rfl ?_
  refine mj_b0 40 rfl ?_
  refine mj_cV rfl rfl rfl rfl rfl rfl (g2) ?_
  refine mj_b0 4 rfl ?_
  refine mj_iter (fun k => (10, [some (.ref 13), some (.int (nI c)), some (.int x), some (.int (sm (fun k => if nv ((bfs b c).1 k) = x then nI 1 else nI 0) k)), some (.int (nI k))], [], fbH sc F S G (z1, z2, z3, yr) M T C V A Z)) (bn b) (fun k hk ih => ?_) ?_
  · have e1 : (nI k).toNatClampNeg = k := nI_clamp (by omega)
    rw [← nI_add k 1] at ih
    simp only [sm] at ih
    refine mj_b0 40 rfl ?_
    refine mj_brf (by rw [bd_cl h]; exact nI_ge hk (by omega)) ?_
    refine mj_b1 40 rfl (nI_ix (show k < 400 by omega) (by omega)) ?_
    rw [e1, show (z1, z2, z3, yr).1 k = nv ((bfs b c).1 k) from (g1'.1 k hk).1]
    by_cases q : nv ((bfs b c).1 k) = x
    · refine mj_brf (fun z => z q) ?_
      refine mj_b0 6 rfl ?_
      rw [if_pos q] at ih
      exact ih
    · refine mj_brt (q) ?_
      refine mj_b0 5 rfl ?_
      rw [if_neg q] at ih
      exact ih
  · refine mj_b0 40 rfl ?_
    refine mj_brt (by rw [bd_cl h]; exact nI_le (by omega) (by omega)) ?_
    refine mj_b0 40 rfl ?_
    exact mj_end rfl rfl trivial ⟨rfl, rfl⟩
end FR
