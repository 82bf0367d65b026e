/-! promises 11, 12 and 14, side by side -/
def bfs (b a : Nat) : bsT := bF b (bn b) 0 (bI0 a)
theorem bfs_inv {b a : Nat} (hb : b < 22) (ha : a < bn b) : bInv b (bfs b a) := bInv.F hb _ _ _ (bInv.I hb ha)
def nrS (b : Nat) (D : Nat → Nat) (c : Nat) : Nat → Nat → Nat
  | 0, _ => 1023
  | j + 1, k => if tAt b c k ≠ 1023 ∧ D (tAt b c k) + 1 = D c then tAt b c k else nrS b D c j (k + 1)
theorem nrS_ok {b c : Nat} {D : Nat → Nat} (hb : b < 22) (hc : c < bn b) : ∀ (j k : Nat), k + j ≤ bp b → nrS b D c j k ≠ 1023 → nrS b D c j k < bn b ∧ D (nrS b D c j k) + 1 = D c
  | 0, k, _, h => absurd rfl h
  | j + 1, k, hk, h => by
    simp only [nrS] at h ⊢
    by_cases q : tAt b c k ≠ 1023 ∧ D (tAt b c k) + 1 = D c
    · rw [if_pos q]
      exact ⟨(((tb1 hb hc).2.2.2.2.2 k (by omega)).resolve_left q.1).1, q.2⟩
    · rw [if_neg q] at h ⊢
      exact nrS_ok hb hc j (k + 1) (by omega) h
theorem nrS_ne {b c : Nat} {D : Nat → Nat} (hb : b < 22) (hc : c < bn b) {s : Nat} (h1 : tAt b c s ≠ 1023) (h2 : D (tAt b c s) + 1 = D c) : ∀ (j k : Nat), k + j ≤ bp b → k ≤ s → s < k + j → nrS b D c j k ≠ 1023
  | 0, k, _, a, b => absurd b (by omega)
  | j + 1, k, hk, a1, a2 => by
    simp only [nrS]
    by_cases q : tAt b c k ≠ 1023 ∧ D (tAt b c k) + 1 = D c
    · rw [if_pos q]
      exact q.1
    · rw [if_neg q]
      have : k ≠ s := fun z => q (by rw [z]; exact ⟨h1, h2⟩)
      exact nrS_ne hb hc h1 h2 j (k + 1) (by omega) (by omega) (by omega)
theorem nr_in {b c : Nat} {t : bsT} (hb : b < 22) (hi : bInv b t) (hc : c < bn b) (h1 : t.1 c ≠ 1023) (h2 : 1 ≤ t.1 c) : nrS b t.1 c (bp b) 0 ≠ 1023 ∧ nrS b t.1 c (bp b) 0 < bn b ∧ t.1 (nrS b t.1 c (bp b) 0) + 1 = t.1 c := by
  rcases hi.2.2.2.2 c hc h1 with z | ⟨s, z1, z2, z3⟩
  · omega
  · have z4 : tAt b c s ≠ 1023 := fun z => by
      have t0 := tb0 hb
      omega
    have z5 := nrS_ne hb hc z4 z3 (bp b) 0 (by omega) (by omega) (by omega)
    exact ⟨z5, nrS_ok hb hc (bp b) 0 (by omega) z5⟩
def pth (b : Nat) (D : Nat → Nat) (a : Nat) : Nat → Nat
  | 0 => a
  | k + 1 => nrS b D (pth b D a k) (bp b) 0
theorem pth_in {b a : Nat} {t : bsT} (hb : b < 22) (hi : bInv b t) (ha : a < bn b) (h1 : t.1 a ≠ 1023) : ∀ k, k ≤ t.1 a → pth b t.1 a k < bn b ∧ t.1 (pth b t.1 a k) + k = t.1 a ∧ t.1 (pth b t.1 a k) ≠ 1023
  | 0, _ => ⟨ha, rfl, h1⟩
  | k + 1, hk => by
    obtain ⟨g1, g2, g3⟩ := pth_in hb hi ha h1 k (by omega)
    obtain ⟨k1, k2, k3⟩ := nr_in hb hi g1 g3 (by omega)
    refine ⟨k2, ?_, ?_⟩
    · show t.1 (nrS b t.1 (pth b t.1 a k) (bp b) 0) + (k + 1) = t.1 a
      omega
    · show t.1 (nrS b t.1 (pth b t.1 a k) (bp b) 0) ≠ 1023
      have := hi.d hb g1
      omega
section FR
variable {sc : mj_E} {F : Int32 × Int32} {S : fA × fA × fA} {G : fG} {yr : fA × fA × Nat × Nat} {M : fM} {T : fT} {C : fC} {V : fV} {A : fA × Int32} {Z : mj_H} {d : Nat}
theorem nv_m1 {x : Nat} (h1 : 1 ≤ x) (h : x < 400) : nv x - nI 1 = nv (x - 1) := by
  rw [nv_is (by omega), nv_is (by omega), pk_sub h1]
/-- EDGES passed over -/
theorem nrS_skip {b c : Nat} {f : Nat → Nat} (hb : b < 22) (hc : c < bn b) : ∀ (j s m : Nat), (s + j < bp b ∨ (s + j = bp b ∧ tDg b c = 0)) → tDg b c ≤ s + 1 → nrS b f c (j + m) s = nrS b f c m (s + j)
  | 0, s, m, _, _ => by rw [Nat.zero_add]; rfl
  | j + 1, s, m, h1, h2 => by
    have q : tAt b c s = 1023 := (tbt hb hc (by omega)).mpr (by omega)
    rw [show j + 1 + m = (j + m) + 1 by omega]
    simp only [nrS]
    rw [if_neg (fun z : tAt b c s ≠ 1023 ∧ f (tAt b c s) + 1 = f c => z.1 q), nrS_skip hb hc j (s + 1) m (by omega) (by omega), show s + 1 + j = s + (j + 1) by omega]
theorem c_nearer {b c : Nat} {t : bsT} {y1 y2 y3 : fA} (hb : b < 22) (h : Bd b G) (hi : bInv b t) (hr : bRc b t y1 y2 y3) (hc : c < bn b) (h1 : t.1 c ≠ 1023) (h2 : 1 ≤ t.1 c) : mj_C (d + 2) nX7_nearer [.ref 14, .int (nI c)] (fbH sc F S G (y1, y2, y3, yr) M T C V A Z) (some (.int (nI (nrS b t.1 c (bp b) 0)))) (fbH sc F S G (y1, y2, y3, yr) M T C V A Z) := by
  have t0 := tb0 hb
  have ts := st_lt hb hc
  have e1 : (nI c).toNatClampNeg = c := nI_clamp (by omega)
  have e2 : nI c + mj_kc 1 = nI (c + 1) := nI_add c 1
  have e3 : (nI (c + 1)).toNatClampNeg = c + 1 := nI_clamp (by omega)
  have i1 : vp_in (nI c) 401 := nI_ix (show c < 401 by omega) (by omega)
  have i2 : vp_in (nI c + mj_kc 1) 401 := by rw [e2]; exact nI_ix (show c + 1 < 401 by omega) (by omega)
  have td := tDg_le hb c
  have h4 : t.1 c < 400 := (hi.d hb hc).resolve_left h1
  have ic : vp_in (nI c) 400 := nI_ix (show c < 400 by omega) (by omega)
  have main : ∀ (j i : Nat) (o : Option Value), j + i = tDg b c → nrS b t.1 c (bp b - nbp b c i) (nbp b c i) ≠ 1023 → mj_R (mj_C (d + 1)) 7 false (some .int) iX7_nearer (10, [some (.ref 14), some (.int (nI c)), some (.int (nI (tSt b c + i))), o], [], fbH sc F S G (y1, y2, y3, yr) M T C V A Z) (fun r2 h2 => r2 = some (.int (nI (nrS b t.1 c (bp b - nbp b c i) (nbp b c i)))) ∧ h2 = fbH sc F S G (y1, y2, y3, yr) M T C V A Z) := by
    intro j
    induction j with
    | zero =>
      intro i o hk z
      rw [Nat.zero_add] at hk
      rw [hk, nbp_end, Nat.sub_self] at z
      exact absurd rfl z
    | succ j ih =>
      intro i o hk hn
      have hi3 : i < tDg b c := by omega
      have ok := tNb_ok hb hc hi3
      have e4 : (nI (tSt b c + i)).toNatClampNeg = tSt b c + i := nI_clamp (by omega)
      have e5 : (nI (tNb b c i)).toNatClampNeg = tNb b c i := nI_clamp (by omega)
      have i3 : vp_in (nI (tSt b c + i)) 2400 := nI_ix (show tSt b c + i < 2400 by omega) (by omega)
      have i4 : vp_in (nI (tNb b c i)) 400 := nI_ix (show tNb b c i < 400 by omega) (by omega)
      have d4 := hi.d hb ok.2.1
      have es : nrS b t.1 c (bp b - nbp b c i) (nbp b c i) = if tNb b c i ≠ 1023 ∧ t.1 (tNb b c i) + 1 = t.1 c then tNb b c i else nrS b t.1 c (bp b - nbp b c (i + 1)) (nbp b c (i + 1)) := by
        have e6 : nrS b t.1 c (bp b - nbp b c i) (nbp b c i) = nrS b t.1 c (bp b - sdx b c i) (sdx b c i) := by
          unfold nbp sdx
          rw [if_pos hi3]
          by_cases q : i + 1 < tDg b c
          · rw [if_pos q]
          · rw [if_neg q]
            have := nrS_skip (f := t.1) hb hc (bp b - 1 - i) i 1 (by omega) (by omega)
            rw [show bp b - 1 - i + 1 = bp b - i by omega, show i + (bp b - 1 - i) = bp b - 1 by omega] at this
            rw [this, show bp b - (bp b - 1) = 1 by omega]
        have e7 := sdx_lt hb hi3
        rw [e6, nbp_s hb hi3, show bp b - sdx b c i = (bp b - (sdx b c i + 1)) + 1 by omega]
        rfl
      rw [es] at hn ⊢
      refine mj_b1 40 rfl (i2) ?_
      rw [e2, e3, h.sn hc]
      refine mj_brf (nI_ge (by omega) (by omega)) ?_
      refine mj_b1 40 rfl (⟨⟨i3, by rw [e4, h.nb hc hi3]; exact i4⟩, ic⟩) ?_
      rw [e4, h.nb hc hi3, e1, e5, show (y1, y2, y3, yr).1 (tNb b c i) = nv (t.1 (tNb b c i)) from (hr.1 _ ok.2.1).1, show (y1, y2, y3, yr).1 c = nv (t.1 c) from (hr.1 _ hc).1, show nv (t.1 c) - mj_kc 1 = nv (t.1 c - 1) from nv_m1 h2 h4]
      by_cases q3 : t.1 (tNb b c i) + 1 = t.1 c
      · rw [if_pos ⟨ok.1, q3⟩]
        refine mj_brf (fun z => z (by rw [show t.1 c - 1 = t.1 (tNb b c i) by omega])) ?_
        refine mj_b0 40 rfl ?_
        exact mj_end rfl rfl trivial ⟨rfl, rfl⟩
      · have q2 : ¬ (tNb b c i ≠ 1023 ∧ t.1 (tNb b c i) + 1 = t.1 c) := fun z => q3 z.2
        rw [if_neg q2] at hn ⊢
        have ih := ih (i + 1) (some (.int (nI (tNb b c i)))) (by omega) hn
        rw [← Nat.add_assoc (tSt b c) i 1, ← nI_add (tSt b c + i) 1] at ih
        refine mj_brt (fun z => q3 (by have := (nv_eq (by omega) (by omega)).mp z; omega)) ?_
        refine mj_b0 2 rfl ?_
        exact ih
  have e6 : nrS b t.1 c (bp b - nbp b c 0) (nbp b c 0) = nrS b t.1 c (bp b) 0 := by
    unfold nbp
    by_cases q : 0 < tDg b c
    · rw [if_pos q]; rfl
    · rw [if_neg q]
      have := nrS_skip (f := t.1) hb hc (bp b) 0 0 (by omega) (by omega)
      rw [Nat.add_zero, Nat.zero_add] at this
      rw [this, Nat.sub_self]
  have mm := main (tDg b c) 0 none (by omega) (by rw [e6]; exact (nr_in hb hi hc h1 h2).1)
  rw [e6] at mm
  refine mj_C.of rfl rfl rfl ?_
  refine mj_b1 6 rfl (i1) ?_
  rw [e1, h.st hc]
  exact mm
/-- what is told of the way -/
def wyA (b a e : Nat) (x : Int32) : Int32 := if x ≤ nv ((bfs b e).1 a) then nI (pth b (bfs b e).1 a x.toNatClampNeg) else NO
theorem wy_in {b a e : Nat} {x : Int32} (hb : b < 22) (ha : a < bn b) (he : e < bn b) (hx : ¬ x < 0) (h : x ≤ nv ((bfs b e).1 a)) : ∃ i : Nat, x = nI i ∧ i ≤ (bfs b e).1 a ∧ (bfs b e).1 a ≠ 1023 ∧ (bfs b e).1 a < 400 := by
  have hi := bfs_inv hb he
  obtain ⟨i, hi2, rfl⟩ := nI_of hx
  rcases hi.d hb ha with q | q
  · rw [q, nv_no, Int32.le_iff_toInt_le, nI_toInt hi2] at h
    have e : (NO : Int32).toInt = -1000000 := by decide
    omega
  · rw [nv_is (by omega), nI_leI hi2 (by omega)] at h
    exact ⟨i, rfl, h, by omega, q⟩
theorem x_way {b a e : Nat} {x : Int32} {y1 y2 y3 : fA} (hb : b < 22) (h : Bd b G) (ha : a < bn b) (he : e < bn b) (hx : ¬ x < 0) : ∃ z1 z2 z3, mj_C (d + 4) nX7_cellOnTheWay [.ref 14, .int (nI a), .int (nI e), .int x] (fbH sc F S G (y1, y2, y3, yr) M T C V A Z) (some (.int (wyA b a e x))) (fbH sc F S G (z1, z2, z3, yr) M T C V A Z) := by
  have t0 := tb0 hb
  have hi := bfs_inv hb he
  have e1 : (nI a).toNatClampNeg = a := nI_clamp (by omega)
  obtain ⟨z1, z2, z3, g1, g2⟩ := x_measure (sc := sc) (F := F) (S := S) (yr := yr) (M := M) (T := T) (C := C) (V := V) (A := A) (Z := Z) (d := d) (y1 := y1) (y2 := y2) (y3 := y3) hb h he
  have g1' : bRc b (bfs b e) z1 z2 z3 := g1
  refine ⟨z1, z2, z3, ?_⟩
  refine mj_C.of rfl rfl rfl ?_
  refine mj_b0 40 rfl ?_
  refine mj_cV rfl rfl rfl rfl rfl rfl (g2) ?_
  refine mj_b1 40 rfl (nI_ix (show a < 400 by omega) (by omega)) ?_
  rw [e1, show (z1, z2, z3, yr).1 a = nv ((bfs b e).1 a) from (g1'.1 a ha).1]
  by_cases q : x ≤ nv ((bfs b e).1 a)
  · obtain ⟨i, rfl, i1, i2, i3⟩ := wy_in hb ha he hx q
    have e2 : (nI i).toNatClampNeg = i := nI_clamp (by omega)
    refine mj_brt (q) ?_
    refine mj_b0 4 rfl ?_
    refine mj_iter (fun k => (24, [some (.ref 14), some (.int (nI a)), some (.int (nI e)), some (.int (nI i)), some (.int (nI (pth b (bfs b e).1 a k))), some (.int (nI k))], [], fbH sc F S G (z1, z2, z3, yr) M T C V A Z)) i (fun k hk ih => ?_) ?_
    · obtain ⟨p1, p2, p3⟩ := pth_in hb hi ha i2 k (by omega)
      rw [← nI_add k 1] at ih
      refine mj_b0 40 rfl ?_
      refine mj_brf (nI_ge hk (by omega)) ?_
      refine mj_b0 40 rfl ?_
      refine mj_brf (show ¬ nI 400 ≤ nI k from nI_ge (by omega) (by omega)) ?_
      refine mj_b0 40 rfl ?_
      refine mj_cV rfl rfl rfl rfl rfl rfl (c_nearer hb h hi g1' p1 p3 (by omega)) ?_
      refine mj_b0 3 rfl ?_
      exact ih
    · refine mj_b0 40 rfl ?_
      refine mj_brt (nI_le (by omega) (by omega)) ?_
      refine mj_b0 40 rfl ?_
      exact mj_end rfl rfl trivial ⟨by unfold wyA; rw [if_pos q, e2], rfl⟩
  · refine mj_brf (q) ?_
    refine mj_b0 40 rfl ?_
    exact mj_end rfl rfl trivial ⟨by unfold wyA; rw [if_neg q], rfl⟩
theorem x_around {b c : Nat} {x : Int32} {y1 y2 y3 : fA} (hb : b < 22) (h : Bd b G) (hc : c < bn b) : ∃ z1 z2 z3, mj_C (d + 4) nX7_countAt [.ref 14, .int (nI c), .int x] (fbH sc F S G (y1, y2, y3, yr) M T C V A Z) (some (.int (sm (fun k => if nv ((bfs b c).1 k) = x then nI 1 else nI 0) (bn b)))) (fbH sc F S G (z1, z2, z3, yr) M T C V A Z) := by
  have t0 := tb0 hb
  obtain ⟨z1, z2, z3, g1, g2⟩ := x_measure (sc := sc) (F := F) (S := S) (yr := yr) (M := M) (T := T) (C := C) (V := V) (A := A) (Z := Z) (d := d) (y1 := y1) (y2 := y2) (y3 := y3) hb h hc
  have g1' : bRc b (bfs b c) z1 z2 z3 := g1
  refine ⟨z1, z2, z3, ?_⟩
  refine mj_C.of rfl rfl rfl ?_
  refine mj_b0 40 rfl ?_
  refine mj_cV rfl rfl rfl rfl rfl rfl (g2) ?_
  refine mj_b0 4 rfl ?_
  refine mj_iter (fun k => (10, [some (.ref 14), some (.int (nI c)), some (.int x), some (.int (sm (fun k => if nv ((bfs b c).1 k) = x then nI 1 else nI 0) k)), some (.int (nI k))], [], fbH sc F S G (z1, z2, z3, yr) M T C V A Z)) (bn b) (fun k hk ih => ?_) ?_
  · have e1 : (nI k).toNatClampNeg = k := nI_clamp (by omega)
    rw [← nI_add k 1] at ih
    simp only [sm] at ih
    refine mj_b0 40 rfl ?_
    refine mj_brf (by rw [bd_cl h]; exact nI_ge hk (by omega)) ?_
    refine mj_b1 40 rfl (nI_ix (show k < 400 by omega) (by omega)) ?_
    rw [e1, show (z1, z2, z3, yr).1 k = nv ((bfs b c).1 k) from (g1'.1 k hk).1]
    by_cases q : nv ((bfs b c).1 k) = x
    · refine mj_brf (fun z => z q) ?_
      refine mj_b0 6 rfl ?_
      rw [if_pos q] at ih
      exact ih
    · refine mj_brt (q) ?_
      refine mj_b0 5 rfl ?_
      rw [if_neg q] at ih
      exact ih
  · refine mj_b0 40 rfl ?_
    refine mj_brt (by rw [bd_cl h]; exact nI_le (by omega) (by omega)) ?_
    refine mj_b0 40 rfl ?_
    exact mj_end rfl rfl trivial ⟨rfl, rfl⟩
end FR
