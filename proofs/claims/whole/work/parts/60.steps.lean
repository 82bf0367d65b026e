/-! promise 26, side by side -/
section TL3
variable {C : mj_Cl} {own : Nat} {ini : Bool} {ret : Option FieldType} {K : mj_K} {Q : Option Value → mj_H → Prop}
/-- a loop with what holds of it -/
theorem mj_itI {α : Type} (I : Nat → α → Prop) (S : Nat → α → mj_S) (n : Nat) (hb : ∀ k x, k < n → I k x → (∀ y, I (k + 1) y → mj_R C own ini ret K (S (k + 1) y) Q) → mj_R C own ini ret K (S k x) Q) (he : ∀ x, I n x → mj_R C own ini ret K (S n x) Q) (x : α) (h0 : I 0 x) : mj_R C own ini ret K (S 0 x) Q := by
  have h : ∀ j, j ≤ n → ∀ x, I (n - j) x → mj_R C own ini ret K (S (n - j) x) Q := by
    intro j
    induction j with
    | zero => intro _; exact he
    | succ j ih =>
      intro hj x hx
      have h2 := ih (by omega)
      rw [show n - j = n - (j + 1) + 1 by omega] at h2
      exact hb _ x (by omega) hx h2
  have h3 := h n (Nat.le_refl n) x
  rw [Nat.sub_self] at h3
  exact h3 h0
end TL3
/-- the first k places by a rule -/
def pf (f g : fA) (k : Nat) : fA := fun q => if q < k then f q else g q
theorem pf_0 (f g : fA) : pf f g 0 = g := by
  funext q
  exact if_neg (by omega)
theorem pf_s (f g : fA) (k : Nat) : upd (pf f g k) k (f k) = pf f g (k + 1) := by
  funext q
  show (if q = k then f k else if q < k then f q else g q) = (if q < k + 1 then f q else g q)
  by_cases e : q = k
  · rw [if_pos e, if_pos (by omega), e]
  · rw [if_neg e]
    by_cases l : q < k
    · rw [if_pos l, if_pos (by omega)]
    · rw [if_neg l, if_neg (by omega)]
theorem pf_in {f g : fA} {k q : Nat} (h : q < k) : pf f g k q = f q := if_pos h
theorem pf_out {f g : fA} {k q : Nat} (h : k ≤ q) : pf f g k q = g q := if_neg (by omega)
def nbS (b : Nat) (v : fA) (c : Nat) : Nat → Int32 := sm (fun s => if tAt b c s = 1023 then nI 0 else v (tAt b c s))
def nx (b : Nat) (bo sy : Int32) (v : fA) (c : Nat) : Int32 := f_ishr (if v c = nI 1 then sy else bo) (nbS b v c (bp b)) &&& nI 1
theorem nx_01 (b : Nat) (bo sy : Int32) (v : fA) (c : Nat) : nx b bo sy v c = nI 0 ∨ nx b bo sy v c = nI 1 := by
  obtain ⟨j, hj, e⟩ := pk_andE (f_ishr (if v c = nI 1 then sy else bo) (nbS b v c (bp b))) (m := nI 1) 1 (by decide)
  unfold nx
  rw [e]
  rcases (show j = 0 ∨ j = 1 by omega) with rfl | rfl
  · exact Or.inl rfl
  · exact Or.inr rfl
theorem nx_cong {b c : Nat} {bo sy : Int32} {l v : fA} (hb : b < 22) (h : LvR b l v) (hc : c < bn b) : nx b bo sy l c = nx b bo sy v c := by
  have t1 := tb1 hb hc
  unfold nx nbS
  rw [(h c hc).1, sm_cong (f := fun s => if tAt b c s = 1023 then nI 0 else l (tAt b c s)) (g := fun s => if tAt b c s = 1023 then nI 0 else v (tAt b c s)) (fun s hs => by
    show (if _ then _ else _) = (if _ then _ else _)
    rcases t1.2.2.2.2.2 s hs with q | q
    · rw [if_pos q, if_pos q]
    · rw [(h _ q.1).1])]
def nxv (b : Nat) (bo sy : Int32) (v : fA) : Nat → fA
  | 0 => v
  | n + 1 => pf (nx b bo sy (nxv b bo sy v n)) (nxv b bo sy v n) (bn b)
theorem LvR.next {b : Nat} {bo sy : Int32} {l v x y : fA} (hb : b < 22) (h : LvR b l v) : LvR b (pf (nx b bo sy l) x (bn b)) (pf (nx b bo sy v) y (bn b)) := by
  intro c hc
  rw [pf_in hc, pf_in hc, nx_cong hb h hc]
  exact ⟨rfl, nx_01 _ _ _ _ _⟩
section SP
variable {sc : mj_E} {F : Int32 × Int32} {S : fA × fA × fA} {G : fG} {Y : fY} {M : fM} {T : fT} {C : fC} {l1 l2 : fA} {A : fA × Int32} {Z : mj_H} {d : Nat}
theorem c_livingBeside_a {b c : Nat} (hb : b < 22) (h : Bd b G) (hc : c < bn b) : mj_C (d + 2) nX3_livingBeside [.ref 30, .int (nI c)] (fbH sc F S G Y M T C (l1, l2, 31, 32) A Z) (some (.int (nbS b l1 c (bp b)))) (fbH sc F S G Y M T C (l1, l2, 31, 32) A Z) := by
  have t0 := tb0 hb
  have ts := st_lt hb hc
  have e1 : (nI c).toNatClampNeg = c := nI_clamp (by omega)
  have e2 : nI c + mj_kc 1 = nI (c + 1) := nI_add c 1
  have e3 : (nI (c + 1)).toNatClampNeg = c + 1 := nI_clamp (by omega)
  have i1 : vp_in (nI c) 401 := nI_ix (show c < 401 by omega) (by omega)
  have i2 : vp_in (nI c + mj_kc 1) 401 := by rw [e2]; exact nI_ix (show c + 1 < 401 by omega) (by omega)
  have hX : ∀ s, s < bp b → tAt b c s = 1023 → nbS b l1 c (s + 1) = nbS b l1 c s := fun s _ q => by
    simp only [nbS, sm, if_pos q]
    rw [show nI 0 = 0 from rfl, Int32.add_zero]
  have x0 := nbp_0 hb hc (nbS b l1 c) hX
  refine mj_C.of rfl rfl rfl ?_
  refine mj_b1 16 rfl (⟨i2, i1⟩) ?_
  rw [e2, e3, e1, h.st hc, h.sn hc]
  refine mj_sq (S' := (25, [some (.ref 30), some (.int (nI c)), some (.int (nbS b l1 c (nbp b c 0))), some (.int (nI (tSt b c + tDg b c))), some (.int (nI (tSt b c + 0)))], [], fbH sc F S G Y M T C (l1, l2, 31, 32) A Z)) (by rw [x0] <;> rfl) ?_
  refine mj_iter (fun i => (25, [some (.ref 30), some (.int (nI c)), some (.int (nbS b l1 c (nbp b c i))), some (.int (nI (tSt b c + tDg b c))), some (.int (nI (tSt b c + i)))], [], fbH sc F S G Y M T C (l1, l2, 31, 32) A Z)) (tDg b c) (fun i hi ih => ?_) ?_
  · obtain ⟨s, hs, e6, e7, e8⟩ := nbp_n hb hc (nbS b l1 c) hX hi
    have ok := tNb_ok hb hc hi
    have e4 : (nI (tSt b c + i)).toNatClampNeg = tSt b c + i := nI_clamp (by omega)
    have e5 : (nI (tNb b c i)).toNatClampNeg = tNb b c i := nI_clamp (by omega)
    have i3 : vp_in (nI (tSt b c + i)) 2400 := nI_ix (show tSt b c + i < 2400 by omega) (by omega)
    have i4 : vp_in (nI (tNb b c i)) 400 := nI_ix (show tNb b c i < 400 by omega) (by omega)
    rw [e7]
    rw [e8, show nbS b l1 c (s + 1) = nbS b l1 c s + (if tAt b c s = 1023 then nI 0 else l1 (tAt b c s)) from rfl, e6, if_neg ok.1, ← Nat.add_assoc (tSt b c) i 1, ← nI_add (tSt b c + i) 1] at ih
    refine mj_b0 40 rfl ?_
    refine mj_brf (nI_ge (by omega) (by omega)) ?_
    refine mj_b1 13 rfl (⟨i3, by rw [e4, h.nb hc hi]; exact i4⟩) ?_
    rw [e4, h.nb hc hi, e5]
    exact ih
  · refine mj_b0 40 rfl ?_
    refine mj_brt (nI_le (Nat.le_refl _) (by omega)) ?_
    refine mj_b0 40 rfl ?_
    rw [nbp_end]
    exact mj_end rfl rfl trivial ⟨rfl, rfl⟩
theorem c_livingBeside_b {b c : Nat} (hb : b < 22) (h : Bd b G) (hc : c < bn b) : mj_C (d + 2) nX3_livingBeside [.ref 30, .int (nI c)] (fbH sc F S G Y M T C (l1, l2, 32, 31) A Z) (some (.int (nbS b l2 c (bp b)))) (fbH sc F S G Y M T C (l1, l2, 32, 31) A Z) := by
  have t0 := tb0 hb
  have ts := st_lt hb hc
  have e1 : (nI c).toNatClampNeg = c := nI_clamp (by omega)
  have e2 : nI c + mj_kc 1 = nI (c + 1) := nI_add c 1
  have e3 : (nI (c + 1)).toNatClampNeg = c + 1 := nI_clamp (by omega)
  have i1 : vp_in (nI c) 401 := nI_ix (show c < 401 by omega) (by omega)
  have i2 : vp_in (nI c + mj_kc 1) 401 := by rw [e2]; exact nI_ix (show c + 1 < 401 by omega) (by omega)
  have hX : ∀ s, s < bp b → tAt b c s = 1023 → nbS b l2 c (s + 1) = nbS b l2 c s := fun s _ q => by
    simp only [nbS, sm, if_pos q]
    rw [show nI 0 = 0 from rfl, Int32.add_zero]
  have x0 := nbp_0 hb hc (nbS b l2 c) hX
  refine mj_C.of rfl rfl rfl ?_
  refine mj_b1 16 rfl (⟨i2, i1⟩) ?_
  rw [e2, e3, e1, h.st hc, h.sn hc]
  refine mj_sq (S' := (25, [some (.ref 30), some (.int (nI c)), some (.int (nbS b l2 c (nbp b c 0))), some (.int (nI (tSt b c + tDg b c))), some (.int (nI (tSt b c + 0)))], [], fbH sc F S G Y M T C (l1, l2, 32, 31) A Z)) (by rw [x0] <;> rfl) ?_
  refine mj_iter (fun i => (25, [some (.ref 30), some (.int (nI c)), some (.int (nbS b l2 c (nbp b c i))), some (.int (nI (tSt b c + tDg b c))), some (.int (nI (tSt b c + i)))], [], fbH sc F S G Y M T C (l1, l2, 32, 31) A Z)) (tDg b c) (fun i hi ih => ?_) ?_
  · obtain ⟨s, hs, e6, e7, e8⟩ := nbp_n hb hc (nbS b l2 c) hX hi
    have ok := tNb_ok hb hc hi
    have e4 : (nI (tSt b c + i)).toNatClampNeg = tSt b c + i := nI_clamp (by omega)
    have e5 : (nI (tNb b c i)).toNatClampNeg = tNb b c i := nI_clamp (by omega)
    have i3 : vp_in (nI (tSt b c + i)) 2400 := nI_ix (show tSt b c + i < 2400 by omega) (by omega)
    have i4 : vp_in (nI (tNb b c i)) 400 := nI_ix (show tNb b c i < 400 by omega) (by omega)
    rw [e7]
    rw [e8, show nbS b l2 c (s + 1) = nbS b l2 c s + (if tAt b c s = 1023 then nI 0 else l2 (tAt b c s)) from rfl, e6, if_neg ok.1, ← Nat.add_assoc (tSt b c) i 1, ← nI_add (tSt b c + i) 1] at ih
    refine mj_b0 40 rfl ?_
    refine mj_brf (nI_ge (by omega) (by omega)) ?_
    refine mj_b1 13 rfl (⟨i3, by rw [e4, h.nb hc hi]; exact i4⟩) ?_
    rw [e4, h.nb hc hi, e5]
    exact ih
  · refine mj_b0 40 rfl ?_
    refine mj_brt (nI_le (Nat.le_refl _) (by omega)) ?_
    refine mj_b0 40 rfl ?_
    rw [nbp_end]
    exact mj_end rfl rfl trivial ⟨rfl, rfl⟩
theorem c_stepOn_a {b : Nat} {bo sy : Int32} (hb : b < 22) (h : Bd b G) : mj_C (d + 3) nX3_stepOn [.ref 30, .int bo, .int sy] (fbH sc F S G Y M T C (l1, l2, 31, 32) A Z) none (fbH sc F S G Y M T C (l1, pf (nx b bo sy l1) l2 (bn b), 32, 31) A Z) := by
  have t0 := tb0 hb
  refine mj_C.of rfl rfl rfl ?_
  refine mj_b0 2 rfl ?_
  refine mj_hq (h' := fbH sc F S G Y M T C (l1, pf (nx b bo sy l1) l2 0, 31, 32) A Z) (by rw [pf_0]) ?_
  refine mj_itJ (fun k (x : Option Value) => (2, [some (.ref 30), some (.int bo), some (.int sy), some (.int (nI k)), x], [], fbH sc F S G Y M T C (l1, pf (nx b bo sy l1) l2 k, 31, 32) A Z)) (bn b) (fun k x hk ih => ?_) (fun x => ?_) none
  · have e1 : (nI k).toNatClampNeg = k := nI_clamp (by omega)
    have hi : vp_in (nI k) 400 := nI_ix (show k < 400 by omega) (by omega)
    have fin : ∀ y, y = (if l1 k = nI 1 then sy else bo) → mj_R (mj_C (d + 2)) 3 false none iX3_stepOn (30, [some (.ref 30), some (.int bo), some (.int sy), some (.int (nI k)), some (.int y)], [], fbH sc F S G Y M T C (l1, pf (nx b bo sy l1) l2 k, 31, 32) A Z) (fun r2 h2 => r2 = none ∧ h2 = fbH sc F S G Y M T C (l1, pf (nx b bo sy l1) l2 (bn b), 32, 31) A Z) := by
      intro y hy
      have ih := ih (some (.int y))
      rw [← nI_add k 1] at ih
      refine mj_b0 40 rfl ?_
      refine mj_cV rfl rfl rfl rfl rfl rfl (c_livingBeside_a hb h hk) ?_
      refine mj_b1 4 rfl (hi) ?_
      refine mj_hq (h' := fbH sc F S G Y M T C (l1, pf (nx b bo sy l1) l2 (k + 1), 31, 32) A Z) (Eq.trans (b := fbH sc F S G Y M T C (l1, upd (pf (nx b bo sy l1) l2 k) (nI k).toNatClampNeg (f_ishr y (nbS b l1 k (bp b)) &&& nI 1), 31, 32) A Z) rfl (by rw [e1, hy, ← pf_s]; rfl)) ?_
      refine mj_b0 2 rfl ?_
      exact ih
    refine mj_b0 40 rfl ?_
    refine mj_brf (by rw [bd_cl h]; exact nI_ge hk (by omega)) ?_
    refine mj_b1 40 rfl (hi) ?_
    rw [e1]
    by_cases q : l1 k = nI 1
    · refine mj_brf (fun z => z q) ?_
      refine mj_b0 3 rfl ?_
      exact fin sy (by rw [if_pos q])
    · refine mj_brt (q) ?_
      refine mj_b0 2 rfl ?_
      exact fin bo (by rw [if_neg q])
  · refine mj_b0 40 rfl ?_
    refine mj_brt (by rw [bd_cl h]; exact nI_le (by omega) (by omega)) ?_
    refine mj_b0 40 rfl ?_
    exact mj_end rfl rfl trivial ⟨rfl, rfl⟩
theorem c_stepOn_b {b : Nat} {bo sy : Int32} (hb : b < 22) (h : Bd b G) : mj_C (d + 3) nX3_stepOn [.ref 30, .int bo, .int sy] (fbH sc F S G Y M T C (l1, l2, 32, 31) A Z) none (fbH sc F S G Y M T C (pf (nx b bo sy l2) l1 (bn b), l2, 31, 32) A Z) := by
  have t0 := tb0 hb
  refine mj_C.of rfl rfl rfl ?_
  refine mj_b0 2 rfl ?_
  refine mj_hq (h' := fbH sc F S G Y M T C (pf (nx b bo sy l2) l1 0, l2, 32, 31) A Z) (by rw [pf_0]) ?_
  refine mj_itJ (fun k (x : Option Value) => (2, [some (.ref 30), some (.int bo), some (.int sy), some (.int (nI k)), x], [], fbH sc F S G Y M T C (pf (nx b bo sy l2) l1 k, l2, 32, 31) A Z)) (bn b) (fun k x hk ih => ?_) (fun x => ?_) none
  · have e1 : (nI k).toNatClampNeg = k := nI_clamp (by omega)
    have hi : vp_in (nI k) 400 := nI_ix (show k < 400 by omega) (by omega)
    have fin : ∀ y, y = (if l2 k = nI 1 then sy else bo) → mj_R (mj_C (d + 2)) 3 false none iX3_stepOn (30, [some (.ref 30), some (.int bo), some (.int sy), some (.int (nI k)), some (.int y)], [], fbH sc F S G Y M T C (pf (nx b bo sy l2) l1 k, l2, 32, 31) A Z) (fun r2 h2 => r2 = none ∧ h2 = fbH sc F S G Y M T C (pf (nx b bo sy l2) l1 (bn b), l2, 31, 32) A Z) := by
      intro y hy
      have ih := ih (some (.int y))
      rw [← nI_add k 1] at ih
      refine mj_b0 40 rfl ?_
      refine mj_cV rfl rfl rfl rfl rfl rfl (c_livingBeside_b hb h hk) ?_
      refine mj_b1 4 rfl (hi) ?_
      refine mj_hq (h' := fbH sc F S G Y M T C (pf (nx b bo sy l2) l1 (k + 1), l2, 32, 31) A Z) (Eq.trans (b := fbH sc F S G Y M T C (upd (pf (nx b bo sy l2) l1 k) (nI k).toNatClampNeg (f_ishr y (nbS b l2 k (bp b)) &&& nI 1), l2, 32, 31) A Z) rfl (by rw [e1, hy, ← pf_s]; rfl)) ?_
      refine mj_b0 2 rfl ?_
      exact ih
    refine mj_b0 40 rfl ?_
    refine mj_brf (by rw [bd_cl h]; exact nI_ge hk (by omega)) ?_
    refine mj_b1 40 rfl (hi) ?_
    rw [e1]
    by_cases q : l2 k = nI 1
    · refine mj_brf (fun z => z q) ?_
      refine mj_b0 3 rfl ?_
      exact fin sy (by rw [if_pos q])
    · refine mj_brt (q) ?_
      refine mj_b0 2 rfl ?_
      exact fin bo (by rw [if_neg q])
  · refine mj_b0 40 rfl ?_
    refine mj_brt (by rw [bd_cl h]; exact nI_le (by omega) (by omega)) ?_
    refine mj_b0 40 rfl ?_
    exact mj_end rfl rfl trivial ⟨rfl, rfl⟩
end SP
section SP2
variable {sc : mj_E} {F : Int32 × Int32} {S : fA × fA × fA} {G : fG} {Y : fY} {M : fM} {T : fT} {C : fC} {V : fV} {A : fA × Int32} {Z : mj_H} {d : Nat}
theorem x_stepOn {b : Nat} {bo sy : Int32} {v y : fA} (hb : b < 22) (h : Bd b G) (hq : V.2.2 = (31, 32) ∨ V.2.2 = (32, 31)) (hl : LvR b (lvs V) v) : ∃ V' : fV, (V'.2.2 = (31, 32) ∨ V'.2.2 = (32, 31)) ∧ LvR b (lvs V') (pf (nx b bo sy v) y (bn b)) ∧ mj_C (d + 3) nX3_stepOn [.ref 30, .int bo, .int sy] (fbH sc F S G Y M T C V A Z) none (fbH sc F S G Y M T C V' A Z) := by
  obtain ⟨l1, l2, q⟩ := V
  rcases hq with z | z
  · have z' : q = (31, 32) := z
    subst z'
    exact ⟨(l1, pf (nx b bo sy l1) l2 (bn b), 32, 31), Or.inr rfl, LvR.next hb hl, c_stepOn_a hb h⟩
  · have z' : q = (32, 31) := z
    subst z'
    exact ⟨(pf (nx b bo sy l2) l1 (bn b), l2, 31, 32), Or.inl rfl, LvR.next hb hl, c_stepOn_b hb h⟩
theorem c_isRule {hh : mj_H} (x : Int32) : mj_C (d + 1) nX8_isRule [.int x] hh (some (.int (vB (¬ x < 0 ∧ ¬ nI 2047 < x)))) hh := by
  refine mj_C.of rfl rfl rfl ?_
  refine mj_b0 40 rfl ?_
  refine mj_br (fun h1 => ?_) (fun h1 => ?_)
  · refine mj_b0 40 rfl ?_
    exact mj_end rfl rfl (Or.inl rfl) ⟨by rw [vB_f (fun q => q.1 h1)]; rfl, rfl⟩
  · refine mj_b0 40 rfl ?_
    refine mj_br (fun h2 => ?_) (fun h2 => ?_)
    · refine mj_b0 40 rfl ?_
      exact mj_end rfl rfl (Or.inl rfl) ⟨by rw [vB_f (fun q => q.2 h2)]; rfl, rfl⟩
    · refine mj_b0 40 rfl ?_
      exact mj_end rfl rfl (Or.inr rfl) ⟨by rw [vB_t ⟨h1, h2⟩]; rfl, rfl⟩
theorem x_steps {b n : Nat} {bo sy : Int32} {v : fA} (hb : b < 22) (h : Bd b G) (hq : V.2.2 = (31, 32) ∨ V.2.2 = (32, 31)) (hl : LvR b (lvs V) v) (h1 : ¬ bo < 0 ∧ ¬ nI 2047 < bo) (h2 : ¬ sy < 0 ∧ ¬ nI 2047 < sy) (hn : 1 ≤ n) (hn2 : n ≤ 50) : ∃ V' : fV, (V'.2.2 = (31, 32) ∨ V'.2.2 = (32, 31)) ∧ LvR b (lvs V') (nxv b bo sy v n) ∧ mj_C (d + 4) nX8_steps [.ref 1, .int bo, .int sy, .int (nI n)] (fbH sc F S G Y M T C V A Z) (some (.int (sm (nxv b bo sy v n) (bn b)))) (fbH sc F S G Y M T C V' A Z) := by
  have t0 := tb0 hb
  have k : ∃ r h', mj_C (d + 4) nX8_steps [.ref 1, .int bo, .int sy, .int (nI n)] (fbH sc F S G Y M T C V A Z) r h' ∧ (r = some (.int (sm (nxv b bo sy v n) (bn b))) ∧ ∃ V' : fV, (V'.2.2 = (31, 32) ∨ V'.2.2 = (32, 31)) ∧ LvR b (lvs V') (nxv b bo sy v n) ∧ h' = fbH sc F S G Y M T C V' A Z) := by
    refine mj_C.ex rfl rfl rfl ?_
    refine mj_b0 40 rfl ?_
    refine mj_cS rfl rfl rfl rfl (c_isRule bo) ?_
    refine mj_b0 40 rfl ?_
    refine mj_brf (fun z => vB_0.mp z h1) ?_
    refine mj_b0 40 rfl ?_
    refine mj_cS rfl rfl rfl rfl (c_isRule sy) ?_
    refine mj_b0 40 rfl ?_
    refine mj_brf (fun z => vB_0.mp z h2) ?_
    refine mj_b0 40 rfl ?_
    refine mj_brf (show ¬ nI n < nI 1 from nI_nlt (by omega) (by omega)) ?_
    refine mj_b0 40 rfl ?_
    refine mj_brt (show nI n ≤ nI 50 from nI_le (by omega) (by omega)) ?_
    refine mj_b0 2 rfl ?_
    refine mj_itI (fun k (V : fV) => (V.2.2 = (31, 32) ∨ V.2.2 = (32, 31)) ∧ LvR b (lvs V) (nxv b bo sy v k)) (fun k (V : fV) => (31, [some (.ref 1), some (.int bo), some (.int sy), some (.int (nI n)), some (.int (nI k))], [], (fbH sc F S G Y M T C V A Z))) n (fun k V hk hV ih => ?_) (fun V hV => ?_) V ⟨hq, hl⟩
    · obtain ⟨V', g1, g2, g3⟩ := x_stepOn (sc := sc) (F := F) (S := S) (Y := Y) (M := M) (T := T) (C := C) (A := A) (Z := Z) (d := d) (bo := bo) (sy := sy) (y := nxv b bo sy v k) hb h hV.1 hV.2
      have ih := ih V' ⟨g1, g2⟩
      rw [← nI_add k 1] at ih
      refine mj_b0 40 rfl ?_
      refine mj_brf (nI_ge hk (by omega)) ?_
      refine mj_b0 40 rfl ?_
      refine mj_cV rfl rfl rfl rfl rfl rfl (g3) ?_
      refine mj_b0 2 rfl ?_
      exact ih
    · refine mj_b0 40 rfl ?_
      refine mj_brt (nI_le (by omega) (by omega)) ?_
      refine mj_b0 40 rfl ?_
      refine mj_sq (S' := (64, [some (.ref 1), some (.int bo), some (.int sy), some (.int (nI n)), some (.int (nI n))], [.int (nI (0 + bn b)), .int (nI 0), .ref 30], (fbH sc F S G Y M T C V A Z))) (by rw [show nI (0 + bn b) = gcl G by rw [Nat.zero_add, bd_cl h]] <;> rfl) ?_
      refine mj_cV rfl rfl rfl rfl rfl rfl (x_countIn hV.1 (show 0 + bn b ≤ 400 by omega)) ?_
      exact mj_end rfl rfl trivial ⟨by rw [smF_sm, sm_cong (fun k hk => (hV.2 k hk).1)], V, hV.1, hV.2, rfl⟩
  obtain ⟨r, h', k1, rfl, V', g1, g2, rfl⟩ := k
  exact ⟨V', g1, g2, k1⟩
end SP2
