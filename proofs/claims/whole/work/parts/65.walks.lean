/-! promise 13, side by side -/
abbrev MD : Nat := 1000000007
theorem lrem_MD {x : Nat} (h : x < 2 ^ 63) : f_lrem (lN x) 1000000007 = lN (x % MD) := pk_lRem h (by decide) (by decide)
def wsm (b : Nat) (W : Nat → Nat) (c : Nat) : Nat → Nat
  | 0 => 0
  | s + 1 => wsm b W c s + if tAt b c s = 1023 then 0 else W (tAt b c s)
def wkS (b : Nat) (W : Nat → Nat) (c : Nat) : Nat := wsm b W c (bp b) % MD
def wk (b a : Nat) : Nat → Nat → Nat
  | 0, c => if c = a then 1 else 0
  | n + 1, c => wkS b (wk b a n) c
theorem wk_lt (b a : Nat) : ∀ n c, wk b a n c < MD
  | 0, c => by
    show (if c = a then 1 else 0) < MD
    split <;> decide
  | n + 1, c => Nat.mod_lt _ (by decide)
theorem wsm_le {b c : Nat} {W : Nat → Nat} (hb : b < 22) (hc : c < bn b) (hW : ∀ c, c < bn b → W c < MD) : ∀ s, s ≤ bp b → wsm b W c s ≤ s * MD
  | 0, _ => Nat.le_refl 0
  | s + 1, h => by
    have ih := wsm_le hb hc hW s (by omega)
    have t1 := (tb1 hb hc).2.2.2.2.2 s (by omega)
    simp only [wsm]
    rw [Nat.succ_mul]
    refine Nat.add_le_add ih ?_
    split
    · exact Nat.zero_le _
    · next q => exact Nat.le_of_lt (hW _ (t1.resolve_left q).1)
theorem wsm_63 {b c : Nat} {W : Nat → Nat} (hb : b < 22) (hc : c < bn b) (hW : ∀ c, c < bn b → W c < MD) : wsm b W c (bp b) < 2 ^ 63 := by
  have h := wsm_le hb hc hW (bp b) (Nat.le_refl _)
  have t0 := tb0 hb
  have h2 : bp b * MD ≤ 10 * MD := Nat.mul_le_mul_right _ t0.2.1
  have e : MD = 1000000007 := rfl
  omega
section WK
variable {sc : mj_E} {F : Int32 × Int32} {S : fA × fA × fA} {G : fG} {y1 y2 y3 w1 w2 : fA} {M : fM} {T : fT} {C : fC} {V : fV} {A : fA × Int32} {Z : mj_H} {d : Nat}
theorem c_walksInto_a {b c : Nat} {W : Nat → Nat} (hb : b < 22) (h : Bd b G) (hc : c < bn b) (hl : ∀ c, c < bn b → w1 c = nI (W c)) (hW : ∀ c, c < bn b → W c < MD) : mj_C (d + 2) nX7_walksInto [.ref 14, .int (nI c)] (fbH sc F S G (y1, y2, y3, w1, w2, 18, 19) M T C V A Z) (some (.int (nI (wkS b W c)))) (fbH sc F S G (y1, y2, y3, w1, w2, 18, 19) M T C V A Z) := by
  have t0 := tb0 hb
  have ts := st_lt hb hc
  have e1 : (nI c).toNatClampNeg = c := nI_clamp (by omega)
  have e2 : nI c + mj_kc 1 = nI (c + 1) := nI_add c 1
  have e3 : (nI (c + 1)).toNatClampNeg = c + 1 := nI_clamp (by omega)
  have i1 : vp_in (nI c) 401 := nI_ix (show c < 401 by omega) (by omega)
  have i2 : vp_in (nI c + mj_kc 1) 401 := by rw [e2]; exact nI_ix (show c + 1 < 401 by omega) (by omega)
  have e0 : MD = 1000000007 := rfl
  have hX : ∀ s, s < bp b → tAt b c s = 1023 → wsm b W c (s + 1) = wsm b W c s := fun s _ q => by
    simp only [wsm, if_pos q]
    rfl
  have x0 := nbp_0 hb hc (wsm b W c) hX
  refine mj_C.of rfl rfl rfl ?_
  refine mj_b1 16 rfl (⟨i2, i1⟩) ?_
  rw [e2, e3, e1, h.st hc, h.sn hc]
  refine mj_sq (S' := (26, [some (.ref 14), some (.int (nI c)), some (.long (lN (wsm b W c (nbp b c 0)))), none, some (.int (nI (tSt b c + tDg b c))), some (.int (nI (tSt b c + 0)))], [], fbH sc F S G (y1, y2, y3, w1, w2, 18, 19) M T C V A Z)) (by rw [x0] <;> rfl) ?_
  refine mj_iter (fun i => (26, [some (.ref 14), some (.int (nI c)), some (.long (lN (wsm b W c (nbp b c i)))), none, some (.int (nI (tSt b c + tDg b c))), some (.int (nI (tSt b c + i)))], [], fbH sc F S G (y1, y2, y3, w1, w2, 18, 19) M T C V A Z)) (tDg b c) (fun i hi ih => ?_) ?_
  · obtain ⟨s, hs, e6, e7, e8⟩ := nbp_n hb hc (wsm b W c) hX hi
    have ok := tNb_ok hb hc hi
    have e4 : (nI (tSt b c + i)).toNatClampNeg = tSt b c + i := nI_clamp (by omega)
    have e5 : (nI (tNb b c i)).toNatClampNeg = tNb b c i := nI_clamp (by omega)
    have i3 : vp_in (nI (tSt b c + i)) 2400 := nI_ix (show tSt b c + i < 2400 by omega) (by omega)
    have i4 : vp_in (nI (tNb b c i)) 400 := nI_ix (show tNb b c i < 400 by omega) (by omega)
    have hw := hW _ ok.2.1
    have e9 : (w1 (tNb b c i)).toInt64 = lN (W (tNb b c i)) := by rw [hl _ ok.2.1, nI_l (by omega)]
    rw [e7]
    rw [e8, show wsm b W c (s + 1) = wsm b W c s + (if tAt b c s = 1023 then 0 else W (tAt b c s)) from rfl, e6, if_neg ok.1, ← lN_add, ← e9, ← Nat.add_assoc (tSt b c) i 1, ← nI_add (tSt b c + i) 1] at ih
    refine mj_b0 40 rfl ?_
    refine mj_brf (nI_ge (by omega) (by omega)) ?_
    refine mj_b1 14 rfl (⟨i3, by rw [e4, h.nb hc hi]; exact i4⟩) ?_
    rw [e4, h.nb hc hi, e5]
    exact ih
  · refine mj_b0 40 rfl ?_
    refine mj_brt (nI_le (Nat.le_refl _) (by omega)) ?_
    rw [nbp_end]
    refine mj_b1 40 rfl (show ¬ (1000000007 : Int64) = 0 by decide) ?_
    refine mj_end rfl rfl trivial ⟨?_, rfl⟩
    have e1 := wsm_63 hb hc hW
    have e3 : wsm b W c (bp b) % MD < MD := Nat.mod_lt _ (by decide)
    show some (Value.int (f_lrem (lN (wsm b W c (bp b))) 1000000007).toInt32) = _
    rw [lrem_MD e1, lN_i]
    rfl
/-- one round of the walks -/
theorem lc_round_a {b i : Nat} {x y z : Int32} {W : Nat → Nat} {o : Option Value} {Q : Option Value → mj_H → Prop} (hb : b < 22) (h : Bd b G) (hl : ∀ c, c < bn b → w1 c = nI (W c)) (hW : ∀ c, c < bn b → W c < MD) (kk : ∀ w', (∀ c, c < bn b → w' c = nI (wkS b W c)) → mj_R (mj_C (d + 2)) 7 false (some .int) iX7_countWalks (78, [some (.ref 14), some (.int x), some (.int y), some (.int z), some (.int (nI i)), some (.ref 18)], [], fbH sc F S G (y1, y2, y3, w1, w', 19, 18) M T C V A Z) Q) : mj_R (mj_C (d + 2)) 7 false (some .int) iX7_countWalks (24, [some (.ref 14), some (.int x), some (.int y), some (.int z), some (.int (nI i)), o], [], fbH sc F S G (y1, y2, y3, w1, w2, 18, 19) M T C V A Z) Q := by
  have t0 := tb0 hb
  refine mj_b0 2 rfl ?_
  refine mj_hq (h' := fbH sc F S G (y1, y2, y3, w1, pf (fun c => nI (wkS b W c)) w2 0, 18, 19) M T C V A Z) (by rw [pf_0]) ?_
  refine mj_iter (fun j => (27, [some (.ref 14), some (.int x), some (.int y), some (.int z), some (.int (nI i)), some (.int (nI j))], [], fbH sc F S G (y1, y2, y3, w1, pf (fun c => nI (wkS b W c)) w2 j, 18, 19) M T C V A Z)) (bn b) (fun j hj ih => ?_) ?_
  · have e1 : (nI j).toNatClampNeg = j := nI_clamp (by omega)
    rw [← nI_add j 1] at ih
    refine mj_b0 40 rfl ?_
    refine mj_brf (by rw [bd_cl h]; exact nI_ge hj (by omega)) ?_
    refine mj_b0 40 rfl ?_
    refine mj_cV rfl rfl rfl rfl rfl rfl (c_walksInto_a hb h hj hl hW) ?_
    refine mj_b1 1 rfl (nI_ix (show j < 400 by omega) (by omega)) ?_
    refine mj_hq (h' := fbH sc F S G (y1, y2, y3, w1, pf (fun c => nI (wkS b W c)) w2 (j + 1), 18, 19) M T C V A Z) (Eq.trans (b := fbH sc F S G (y1, y2, y3, w1, upd (pf (fun c => nI (wkS b W c)) w2 j) (nI j).toNatClampNeg (nI (wkS b W j)), 18, 19) M T C V A Z) rfl (by rw [e1, ← pf_s])) ?_
    refine mj_b0 2 rfl ?_
    exact ih
  · refine mj_b0 40 rfl ?_
    refine mj_brt (by rw [bd_cl h]; exact nI_le (by omega) (by omega)) ?_
    refine mj_b0 10 rfl ?_
    exact kk _ (fun c hc => pf_in hc)
theorem c_walksInto_b {b c : Nat} {W : Nat → Nat} (hb : b < 22) (h : Bd b G) (hc : c < bn b) (hl : ∀ c, c < bn b → w2 c = nI (W c)) (hW : ∀ c, c < bn b → W c < MD) : mj_C (d + 2) nX7_walksInto [.ref 14, .int (nI c)] (fbH sc F S G (y1, y2, y3, w1, w2, 19, 18) M T C V A Z) (some (.int (nI (wkS b W c)))) (fbH sc F S G (y1, y2, y3, w1, w2, 19, 18) M T C V A Z) := by
  have t0 := tb0 hb
  have ts := st_lt hb hc
  have e1 : (nI c).toNatClampNeg = c := nI_clamp (by omega)
  have e2 : nI c + mj_kc 1 = nI (c + 1) := nI_add c 1
  have e3 : (nI (c + 1)).toNatClampNeg = c + 1 := nI_clamp (by omega)
  have i1 : vp_in (nI c) 401 := nI_ix (show c < 401 by omega) (by omega)
  have i2 : vp_in (nI c + mj_kc 1) 401 := by rw [e2]; exact nI_ix (show c + 1 < 401 by omega) (by omega)
  have e0 : MD = 1000000007 := rfl
  have hX : ∀ s, s < bp b → tAt b c s = 1023 → wsm b W c (s + 1) = wsm b W c s := fun s _ q => by
    simp only [wsm, if_pos q]
    rfl
  have x0 := nbp_0 hb hc (wsm b W c) hX
  refine mj_C.of rfl rfl rfl ?_
  refine mj_b1 16 rfl (⟨i2, i1⟩) ?_
  rw [e2, e3, e1, h.st hc, h.sn hc]
  refine mj_sq (S' := (26, [some (.ref 14), some (.int (nI c)), some (.long (lN (wsm b W c (nbp b c 0)))), none, some (.int (nI (tSt b c + tDg b c))), some (.int (nI (tSt b c + 0)))], [], fbH sc F S G (y1, y2, y3, w1, w2, 19, 18) M T C V A Z)) (by rw [x0] <;> rfl) ?_
  refine mj_iter (fun i => (26, [some (.ref 14), some (.int (nI c)), some (.long (lN (wsm b W c (nbp b c i)))), none, some (.int (nI (tSt b c + tDg b c))), some (.int (nI (tSt b c + i)))], [], fbH sc F S G (y1, y2, y3, w1, w2, 19, 18) M T C V A Z)) (tDg b c) (fun i hi ih => ?_) ?_
  · obtain ⟨s, hs, e6, e7, e8⟩ := nbp_n hb hc (wsm b W c) hX hi
    have ok := tNb_ok hb hc hi
    have e4 : (nI (tSt b c + i)).toNatClampNeg = tSt b c + i := nI_clamp (by omega)
    have e5 : (nI (tNb b c i)).toNatClampNeg = tNb b c i := nI_clamp (by omega)
    have i3 : vp_in (nI (tSt b c + i)) 2400 := nI_ix (show tSt b c + i < 2400 by omega) (by omega)
    have i4 : vp_in (nI (tNb b c i)) 400 := nI_ix (show tNb b c i < 400 by omega) (by omega)
    have hw := hW _ ok.2.1
    have e9 : (w2 (tNb b c i)).toInt64 = lN (W (tNb b c i)) := by rw [hl _ ok.2.1, nI_l (by omega)]
    rw [e7]
    rw [e8, show wsm b W c (s + 1) = wsm b W c s + (if tAt b c s = 1023 then 0 else W (tAt b c s)) from rfl, e6, if_neg ok.1, ← lN_add, ← e9, ← Nat.add_assoc (tSt b c) i 1, ← nI_add (tSt b c + i) 1] at ih
    refine mj_b0 40 rfl ?_
    refine mj_brf (nI_ge (by omega) (by omega)) ?_
    refine mj_b1 14 rfl (⟨i3, by rw [e4, h.nb hc hi]; exact i4⟩) ?_
    rw [e4, h.nb hc hi, e5]
    exact ih
  · refine mj_b0 40 rfl ?_
    refine mj_brt (nI_le (Nat.le_refl _) (by omega)) ?_
    rw [nbp_end]
    refine mj_b1 40 rfl (show ¬ (1000000007 : Int64) = 0 by decide) ?_
    refine mj_end rfl rfl trivial ⟨?_, rfl⟩
    have e1 := wsm_63 hb hc hW
    have e3 : wsm b W c (bp b) % MD < MD := Nat.mod_lt _ (by decide)
    show some (Value.int (f_lrem (lN (wsm b W c (bp b))) 1000000007).toInt32) = _
    rw [lrem_MD e1, lN_i]
    rfl
/-- one round of the walks -/
theorem lc_round_b {b i : Nat} {x y z : Int32} {W : Nat → Nat} {o : Option Value} {Q : Option Value → mj_H → Prop} (hb : b < 22) (h : Bd b G) (hl : ∀ c, c < bn b → w2 c = nI (W c)) (hW : ∀ c, c < bn b → W c < MD) (kk : ∀ w', (∀ c, c < bn b → w' c = nI (wkS b W c)) → mj_R (mj_C (d + 2)) 7 false (some .int) iX7_countWalks (78, [some (.ref 14), some (.int x), some (.int y), some (.int z), some (.int (nI i)), some (.ref 19)], [], fbH sc F S G (y1, y2, y3, w', w2, 18, 19) M T C V A Z) Q) : mj_R (mj_C (d + 2)) 7 false (some .int) iX7_countWalks (24, [some (.ref 14), some (.int x), some (.int y), some (.int z), some (.int (nI i)), o], [], fbH sc F S G (y1, y2, y3, w1, w2, 19, 18) M T C V A Z) Q := by
  have t0 := tb0 hb
  refine mj_b0 2 rfl ?_
  refine mj_hq (h' := fbH sc F S G (y1, y2, y3, pf (fun c => nI (wkS b W c)) w1 0, w2, 19, 18) M T C V A Z) (by rw [pf_0]) ?_
  refine mj_iter (fun j => (27, [some (.ref 14), some (.int x), some (.int y), some (.int z), some (.int (nI i)), some (.int (nI j))], [], fbH sc F S G (y1, y2, y3, pf (fun c => nI (wkS b W c)) w1 j, w2, 19, 18) M T C V A Z)) (bn b) (fun j hj ih => ?_) ?_
  · have e1 : (nI j).toNatClampNeg = j := nI_clamp (by omega)
    rw [← nI_add j 1] at ih
    refine mj_b0 40 rfl ?_
    refine mj_brf (by rw [bd_cl h]; exact nI_ge hj (by omega)) ?_
    refine mj_b0 40 rfl ?_
    refine mj_cV rfl rfl rfl rfl rfl rfl (c_walksInto_b hb h hj hl hW) ?_
    refine mj_b1 1 rfl (nI_ix (show j < 400 by omega) (by omega)) ?_
    refine mj_hq (h' := fbH sc F S G (y1, y2, y3, pf (fun c => nI (wkS b W c)) w1 (j + 1), w2, 19, 18) M T C V A Z) (Eq.trans (b := fbH sc F S G (y1, y2, y3, upd (pf (fun c => nI (wkS b W c)) w1 j) (nI j).toNatClampNeg (nI (wkS b W j)), w2, 19, 18) M T C V A Z) rfl (by rw [e1, ← pf_s])) ?_
    refine mj_b0 2 rfl ?_
    exact ih
  · refine mj_b0 40 rfl ?_
    refine mj_brt (by rw [bd_cl h]; exact nI_le (by omega) (by omega)) ?_
    refine mj_b0 10 rfl ?_
    exact kk _ (fun c hc => pf_in hc)
end WK
def wac (Y : fY) : fA := if Y.2.2.2.2.2.1 = 18 then Y.2.2.2.1 else Y.2.2.2.2.1
section WK2
variable {sc : mj_E} {F : Int32 × Int32} {S : fA × fA × fA} {G : fG} {Y : fY} {M : fM} {T : fT} {C : fC} {V : fV} {A : fA × Int32} {Z : mj_H} {d : Nat}
theorem lc_walks {b a n k : Nat} (hb : b < 22) (h : Bd b G) (ha : a < bn b) (hk : k < bn b) (hn : n ≤ 30) (hy : Y.2.2.2.2.2 = (18, 19) ∨ Y.2.2.2.2.2 = (19, 18)) (h0 : ∀ c, c < bn b → wac Y c = nI (wk b a 0 c)) : mj_R (mj_C (d + 2)) 7 false (some .int) iX7_countWalks (18, [some (.ref 14), some (.int (nI a)), some (.int (nI k)), some (.int (nI n)), some (.int (nI 0)), none], [], (fbH sc F S G Y M T C V A Z)) (fun r h' => r = some (.int (nI (wk b a n k))) ∧ ∃ Y' : fY, (Y'.2.2.2.2.2 = (18, 19) ∨ Y'.2.2.2.2.2 = (19, 18)) ∧ h' = fbH sc F S G Y' M T C V A Z) := by
  have t0 := tb0 hb
  have e0 : MD = 1000000007 := rfl
  refine mj_itI (fun j (o : Option Value × fY) => (o.2.2.2.2.2.2 = (18, 19) ∨ o.2.2.2.2.2.2 = (19, 18)) ∧ ∀ c, c < bn b → wac o.2 c = nI (wk b a j c)) (fun j (o : Option Value × fY) => (18, [some (.ref 14), some (.int (nI a)), some (.int (nI k)), some (.int (nI n)), some (.int (nI j)), o.1], [], fbH sc F S G o.2 M T C V A Z)) n (fun j o hj hI ih => ?_) (fun o hI => ?_) (none, Y) ⟨hy, h0⟩
  · obtain ⟨o, y1, y2, y3, w1, w2, r⟩ := o
    obtain ⟨hI1, hI2⟩ := hI
    refine mj_b0 40 rfl ?_
    refine mj_brf (nI_ge hj (by omega)) ?_
    rcases hI1 with z | z
    · have z' : r = (18, 19) := z
      subst z'
      refine lc_round_a hb h (W := wk b a j) hI2 (fun c _ => wk_lt b a j c) (fun w' hw => ?_)
      have ih := ih (some (.ref 18), (y1, y2, y3, w1, w', 19, 18)) ⟨Or.inr rfl, hw⟩
      rw [← nI_add j 1] at ih
      refine mj_b0 2 rfl ?_
      exact ih
    · have z' : r = (19, 18) := z
      subst z'
      refine lc_round_b hb h (W := wk b a j) hI2 (fun c _ => wk_lt b a j c) (fun w' hw => ?_)
      have ih := ih (some (.ref 19), (y1, y2, y3, w', w2, 18, 19)) ⟨Or.inl rfl, hw⟩
      rw [← nI_add j 1] at ih
      refine mj_b0 2 rfl ?_
      exact ih
  · obtain ⟨o, y1, y2, y3, w1, w2, r⟩ := o
    obtain ⟨hI1, hI2⟩ := hI
    have e1 : (nI k).toNatClampNeg = k := nI_clamp (by omega)
    refine mj_b0 40 rfl ?_
    refine mj_brt (nI_le (by omega) (by omega)) ?_
    rcases hI1 with z | z
    · have z' : r = (18, 19) := z
      subst z'
      refine mj_b1 40 rfl (nI_ix (show k < 400 by omega) (by omega)) ?_
      exact mj_end rfl rfl trivial ⟨by rw [e1, ← hI2 k hk]; rfl, _, Or.inl rfl, rfl⟩
    · have z' : r = (19, 18) := z
      subst z'
      refine mj_b1 40 rfl (nI_ix (show k < 400 by omega) (by omega)) ?_
      exact mj_end rfl rfl trivial ⟨by rw [e1, ← hI2 k hk]; rfl, _, Or.inr rfl, rfl⟩
theorem wk_0 {a c : Nat} {w : fA} (hc : c < 400) : upd (fl 400 (nI 0) w) a (nI 1) c = nI (if c = a then 1 else 0) := by
  by_cases e : c = a
  · rw [e, pk_us, if_pos rfl]
  · rw [pk_un e, if_neg e]
    exact if_pos hc
theorem x_countWalks {b a n k : Nat} (hb : b < 22) (h : Bd b G) (ha : a < bn b) (hk : k < bn b) (hn : n ≤ 30) (hy : Y.2.2.2.2.2 = (18, 19) ∨ Y.2.2.2.2.2 = (19, 18)) : ∃ Y' : fY, (Y'.2.2.2.2.2 = (18, 19) ∨ Y'.2.2.2.2.2 = (19, 18)) ∧ mj_C (d + 3) nX7_countWalks [.ref 14, .int (nI a), .int (nI k), .int (nI n)] (fbH sc F S G Y M T C V A Z) (some (.int (nI (wk b a n k)))) (fbH sc F S G Y' M T C V A Z) := by
  have t0 := tb0 hb
  have e1 : (nI a).toNatClampNeg = a := nI_clamp (by omega)
  have kk : ∃ r h', mj_C (d + 3) nX7_countWalks [.ref 14, .int (nI a), .int (nI k), .int (nI n)] (fbH sc F S G Y M T C V A Z) r h' ∧ (r = some (.int (nI (wk b a n k))) ∧ ∃ Y' : fY, (Y'.2.2.2.2.2 = (18, 19) ∨ Y'.2.2.2.2.2 = (19, 18)) ∧ h' = fbH sc F S G Y' M T C V A Z) := by
    obtain ⟨y1, y2, y3, w1, w2, r⟩ := Y
    rcases hy with z | z
    · have z' : r = (18, 19) := z
      subst z'
      refine mj_C.ex rfl rfl rfl ?_
      refine mj_b0 40 rfl ?_
      refine mj_cS rfl rfl rfl rfl (c_fill (a := 18) (n := 400) (f := w1) (nI 0) (by decide) rfl) ?_
      refine mj_hq (h' := fbH sc F S G (y1, y2, y3, fl 400 (nI 0) w1, w2, 18, 19) M T C V A Z) rfl ?_
      refine mj_b1 7 rfl (nI_ix (show a < 400 by omega) (by omega)) ?_
      refine mj_hq (h' := fbH sc F S G (y1, y2, y3, upd (fl 400 (nI 0) w1) a (nI 1), w2, 18, 19) M T C V A Z) (Eq.trans (b := fbH sc F S G (y1, y2, y3, upd (fl 400 (nI 0) w1) (nI a).toNatClampNeg (nI 1), w2, 18, 19) M T C V A Z) rfl (by rw [e1])) ?_
      exact lc_walks hb h ha hk hn (Or.inl rfl) (fun c hc => wk_0 (by omega))
    · have z' : r = (19, 18) := z
      subst z'
      refine mj_C.ex rfl rfl rfl ?_
      refine mj_b0 40 rfl ?_
      refine mj_cS rfl rfl rfl rfl (c_fill (a := 19) (n := 400) (f := w2) (nI 0) (by decide) rfl) ?_
      refine mj_hq (h' := fbH sc F S G (y1, y2, y3, w1, fl 400 (nI 0) w2, 19, 18) M T C V A Z) rfl ?_
      refine mj_b1 7 rfl (nI_ix (show a < 400 by omega) (by omega)) ?_
      refine mj_hq (h' := fbH sc F S G (y1, y2, y3, w1, upd (fl 400 (nI 0) w2) a (nI 1), 19, 18) M T C V A Z) (Eq.trans (b := fbH sc F S G (y1, y2, y3, w1, upd (fl 400 (nI 0) w2) (nI a).toNatClampNeg (nI 1), 19, 18) M T C V A Z) rfl (by rw [e1])) ?_
      exact lc_walks hb h ha hk hn (Or.inr rfl) (fun c hc => wk_0 (by omega))
  obtain ⟨r, h', k1, rfl, Y', g1, rfl⟩ := kk
  exact ⟨Y', g1, k1⟩
end WK2
