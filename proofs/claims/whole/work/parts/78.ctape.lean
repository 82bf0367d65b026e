/-! promise 18: the class's check -/
def sb (q : Nat) : Int32 := (nI q).toInt8.toInt32
theorem sb_toInt : ∀ q, q < 256 → (sb q).toInt = (if q < 128 then (q : Int) else (q : Int) - 256) := by decide +kernel
theorem sb_eq {q c : Nat} (hq : q < 256) (hc : c < 128) : sb q = nI c ↔ q = c := by
  have h := sb_toInt q hq
  constructor
  · intro z
    rw [z, nI_toInt (by omega)] at h
    split at h <;> omega
  · rintro rfl
    apply Int32.toInt_inj.mp
    rw [h, if_pos hc, nI_toInt (by omega)]
theorem sb_lt {q c : Nat} (hq : q < 256) (hc : c < 128) : sb q < nI c ↔ (q < c ∨ 128 ≤ q) := by
  have h := sb_toInt q hq
  rw [Int32.lt_iff_toInt_lt, h, nI_toInt (by omega)]
  split <;> omega
theorem sb_gt {q c : Nat} (hq : q < 256) (hc : c < 128) : nI c < sb q ↔ (c < q ∧ q < 128) := by
  have h := sb_toInt q hq
  rw [Int32.lt_iff_toInt_lt, h, nI_toInt (by omega)]
  split <;> omega
section TA
variable {d : Nat} {hh : mj_H}
theorem c_isBlank {q : Nat} (hq : q < 256) : mj_C (d + 1) nX6_isBlank [.int (sb q)] hh (some (.int (vB (q = 32 ∨ q = 10)))) hh := by
  refine mj_C.of rfl rfl rfl ?_
  refine mj_b0 40 rfl ?_
  by_cases h1 : q = 32
  · refine mj_brt ((sb_eq hq (by decide)).mpr h1) ?_
    refine mj_b0 40 rfl ?_
    exact mj_end rfl rfl (Or.inr rfl) ⟨by rw [vB_t (Or.inl h1)]; rfl, rfl⟩
  · refine mj_brf (fun z => h1 ((sb_eq hq (by decide)).mp z)) ?_
    refine mj_b0 40 rfl ?_
    by_cases h2 : q = 10
    · refine mj_brf (fun z => z ((sb_eq hq (by decide)).mpr h2)) ?_
      refine mj_b0 40 rfl ?_
      exact mj_end rfl rfl (Or.inr rfl) ⟨by rw [vB_t (Or.inr h2)]; rfl, rfl⟩
    · refine mj_brt (fun z => h2 ((sb_eq hq (by decide)).mp z)) ?_
      refine mj_b0 40 rfl ?_
      exact mj_end rfl rfl (Or.inl rfl) ⟨by rw [vB_f (fun z => z.elim h1 h2)]; rfl, rfl⟩
theorem c_isFigure {q : Nat} (hq : q < 256) : mj_C (d + 1) nX6_isFigure [.int (sb q)] hh (some (.int (vB (48 ≤ q ∧ q ≤ 57)))) hh := by
  refine mj_C.of rfl rfl rfl ?_
  refine mj_b0 40 rfl ?_
  by_cases h1 : q < 48 ∨ 128 ≤ q
  · refine mj_brt ((sb_lt hq (by decide)).mpr h1) ?_
    refine mj_b0 40 rfl ?_
    exact mj_end rfl rfl (Or.inl rfl) ⟨by rw [vB_f (by omega)]; rfl, rfl⟩
  · refine mj_brf (fun z => h1 ((sb_lt hq (by decide)).mp z)) ?_
    refine mj_b0 40 rfl ?_
    by_cases h2 : 57 < q ∧ q < 128
    · refine mj_brt ((sb_gt hq (by decide)).mpr h2) ?_
      refine mj_b0 40 rfl ?_
      exact mj_end rfl rfl (Or.inl rfl) ⟨by rw [vB_f (by omega)]; rfl, rfl⟩
    · refine mj_brf (fun z => h2 ((sb_gt hq (by decide)).mp z)) ?_
      refine mj_b0 40 rfl ?_
      exact mj_end rfl rfl (Or.inr rfl) ⟨by rw [vB_t (by omega)]; rfl, rfl⟩
theorem c_isLetter {q : Nat} (hq : q < 256) : mj_C (d + 1) nX6_isLetter [.int (sb q)] hh (some (.int (vB (q = 102 ∨ q = 108 ∨ q = 114 ∨ q = 98)))) hh := by
  refine mj_C.of rfl rfl rfl ?_
  refine mj_b0 40 rfl ?_
  by_cases h1 : q = 102
  · refine mj_brt ((sb_eq hq (by decide)).mpr h1) ?_
    refine mj_b0 40 rfl ?_
    exact mj_end rfl rfl (Or.inr rfl) ⟨by rw [vB_t (by omega)]; rfl, rfl⟩
  · refine mj_brf (fun z => h1 ((sb_eq hq (by decide)).mp z)) ?_
    refine mj_b0 40 rfl ?_
    by_cases h2 : q = 108
    · refine mj_brt ((sb_eq hq (by decide)).mpr h2) ?_
      refine mj_b0 40 rfl ?_
      exact mj_end rfl rfl (Or.inr rfl) ⟨by rw [vB_t (by omega)]; rfl, rfl⟩
    · refine mj_brf (fun z => h2 ((sb_eq hq (by decide)).mp z)) ?_
      refine mj_b0 40 rfl ?_
      by_cases h3 : q = 114
      · refine mj_brt ((sb_eq hq (by decide)).mpr h3) ?_
        refine mj_b0 40 rfl ?_
        exact mj_end rfl rfl (Or.inr rfl) ⟨by rw [vB_t (by omega)]; rfl, rfl⟩
      · refine mj_brf (fun z => h3 ((sb_eq hq (by decide)).mp z)) ?_
        refine mj_b0 40 rfl ?_
        by_cases h4 : q = 98
        · refine mj_brf (fun z => z ((sb_eq hq (by decide)).mpr h4)) ?_
          refine mj_b0 40 rfl ?_
          exact mj_end rfl rfl (Or.inr rfl) ⟨by rw [vB_t (by omega)]; rfl, rfl⟩
        · refine mj_brt (fun z => h4 ((sb_eq hq (by decide)).mp z)) ?_
          refine mj_b0 40 rfl ?_
          exact mj_end rfl rfl (Or.inl rfl) ⟨by rw [vB_f (by omega)]; rfl, rfl⟩
theorem c_depthOf {q : Nat} (hq : q < 256) : mj_C (d + 1) nX6_depthOf [.int (sb q)] hh (some (.int (if q = 40 then nI 1 else if q = 41 then -(nI 1) else nI 0))) hh := by
  refine mj_C.of rfl rfl rfl ?_
  refine mj_b0 40 rfl ?_
  by_cases h1 : q = 40
  · refine mj_brf (fun z => z ((sb_eq hq (by decide)).mpr h1)) ?_
    refine mj_b0 40 rfl ?_
    exact mj_end rfl rfl trivial ⟨by rw [if_pos h1]; rfl, rfl⟩
  · refine mj_brt (fun z => h1 ((sb_eq hq (by decide)).mp z)) ?_
    refine mj_b0 40 rfl ?_
    by_cases h2 : q = 41
    · refine mj_brf (fun z => z ((sb_eq hq (by decide)).mpr h2)) ?_
      refine mj_b0 40 rfl ?_
      exact mj_end rfl rfl trivial ⟨by rw [if_neg h1, if_pos h2]; rfl, rfl⟩
    · refine mj_brt (fun z => h2 ((sb_eq hq (by decide)).mp z)) ?_
      refine mj_b0 40 rfl ?_
      exact mj_end rfl rfl trivial ⟨by rw [if_neg h1, if_neg h2]; rfl, rfl⟩
end TA
section TB
variable {sc : mj_E} {F : Int32 × Int32} {S : fA × fA × fA} {G : fG} {Y : fY} {M : fM} {C : fC} {V : fV} {A : fA × Int32} {Z : mj_H} {d : Nat}
variable {t1 t2 t3 t4 : fA} {fp : Int32} {q : Nat → Nat} {n : Nat}
def tpB (q : Nat → Nat) (n : Nat) (t2 : fA) : Prop := n ≤ 300 ∧ ∀ i, i < n → t2 i = sb (q i) ∧ q i < 256
theorem c_figuresFrom {i : Nat} (hT : tpB q n t2) (hi : i ≤ n) : mj_C (d + 2) nX6_figuresFrom [.ref 21, .int (nI i)] (fbH sc F S G Y M (t1, t2, t3, t4, nI n, fp) C V A Z) (some (.int (nI (fg q n i)))) (fbH sc F S G Y M (t1, t2, t3, t4, nI n, fp) C V A Z) := by
  have hn := hT.1
  have main : ∀ j e, j + (i + e) = n → fg q n i = e + fg q n (i + e) → mj_R (mj_C (d + 1)) 6 false (some .int) iX6_figuresFrom (2, [some (.ref 21), some (.int (nI i)), some (.int (nI (i + e)))], [], fbH sc F S G Y M (t1, t2, t3, t4, nI n, fp) C V A Z) (fun r2 h2 => r2 = some (.int (nI (fg q n i))) ∧ h2 = fbH sc F S G Y M (t1, t2, t3, t4, nI n, fp) C V A Z) := by
    intro j
    induction j with
    | zero =>
      intro e he hf
      rw [fg_n (show n ≤ i + e by omega)] at hf
      refine mj_b0 40 rfl ?_
      refine mj_brt (nI_le (by omega) (by omega)) ?_
      refine mj_b0 40 rfl ?_
      exact mj_end rfl rfl trivial ⟨by rw [pk_sub (by omega), show i + e - i = fg q n i by omega], rfl⟩
    | succ j ih =>
      intro e he hf
      have hie : i + e < n := by omega
      obtain ⟨hb1, hb2⟩ := hT.2 (i + e) hie
      have e1 : (nI (i + e)).toNatClampNeg = i + e := nI_clamp (by omega)
      refine mj_b0 40 rfl ?_
      refine mj_brf (nI_ge hie (by omega)) ?_
      refine mj_b1 40 rfl (nI_ix (show i + e < 300 by omega) (by omega)) ?_
      rw [e1, show (t1, t2, t3, t4, nI n, fp).2.1 (i + e) = sb (q (i + e)) from hb1]
      refine mj_cS rfl rfl rfl rfl (c_isFigure hb2) ?_
      refine mj_b0 40 rfl ?_
      by_cases h1 : 48 ≤ q (i + e) ∧ q (i + e) ≤ 57
      · rw [fg_t hie h1] at hf
        have ih := ih (e + 1) (by omega) (by rw [← Nat.add_assoc]; omega)
        rw [← Nat.add_assoc, ← nI_add (i + e) 1] at ih
        refine mj_brf (fun z => vB_0.mp z h1) ?_
        refine mj_b0 2 rfl ?_
        exact ih
      · rw [fg_f h1] at hf
        refine mj_brt (vB_0.mpr h1) ?_
        refine mj_b0 40 rfl ?_
        exact mj_end rfl rfl trivial ⟨by rw [pk_sub (by omega), show i + e - i = fg q n i by omega], rfl⟩
  refine mj_C.of rfl rfl rfl ?_
  refine mj_b0 2 rfl ?_
  exact main (n - i) 0 (by omega) (by rw [Nat.add_zero, Nat.zero_add])
theorem sb_fig {x : Nat} (h : 48 ≤ x ∧ x ≤ 57) : sb x = nI x := (sb_eq (by omega) (by omega)).mpr rfl
theorem c_numberAt {i : Nat} (hT : tpB q n t2) (hi : i < n) (hf : isF (q i)) : mj_C (d + 2) nX6_numberAt [.ref 21, .int (nI i)] (fbH sc F S G Y M (t1, t2, t3, t4, nI n, fp) C V A Z) (some (.int (nI (nu q n i)))) (fbH sc F S G Y M (t1, t2, t3, t4, nI n, fp) C V A Z) := by
  have hn := hT.1
  have hf' : 48 ≤ q i ∧ q i ≤ 57 := hf
  obtain ⟨hb1, hb2⟩ := hT.2 i hi
  have e1 : (nI i).toNatClampNeg = i := nI_clamp (by omega)
  have e3 : nI i + mj_kc 2 = nI (i + 2) := nI_add i 2
  have ii : vp_in (nI i) 300 := nI_ix (show i < 300 by omega) (by omega)
  refine mj_C.of rfl rfl rfl ?_
  refine mj_b0 4 rfl ?_
  refine mj_b0 40 rfl ?_
  rw [e3]
  refine mj_brf (nI_ge (by omega) (by omega)) ?_
  refine mj_b0 40 rfl ?_
  refine mj_brf (nI_ge hi (by omega)) ?_
  refine mj_b1 40 rfl (ii) ?_
  rw [e1, show (t1, t2, t3, t4, nI n, fp).2.1 i = sb (q i) from hb1]
  refine mj_cS rfl rfl rfl rfl (c_isFigure hb2) ?_
  refine mj_b0 40 rfl ?_
  refine mj_brf (fun z => vB_0.mp z hf') ?_
  refine mj_b1 11 rfl (ii) ?_
  rw [e1, show (t1, t2, t3, t4, nI n, fp).2.1 i = sb (q i) from hb1, sb_fig hf']
  refine mj_sq (S' := (46, [some (.ref 21), some (.int (nI i)), some (.int (nI (q i - 48))), some (.int (nI i))], [], fbH sc F S G Y M (t1, t2, t3, t4, nI n, fp) C V A Z)) (by
    rw [← pk_sub hf'.1, show nI (q i) - nI 48 = nI 0 * nI 10 + nI (q i) - nI 48 by rw [pk_mul, nI_add, Nat.zero_mul, Nat.zero_add]] <;> rfl) ?_
  refine mj_b0 2 rfl ?_
  refine mj_b0 40 rfl ?_
  rw [e3, show nI i + mj_kc 1 = nI (i + 1) from nI_add i 1]
  refine mj_brf (nI_ge (by omega) (by omega)) ?_
  refine mj_b0 40 rfl ?_
  by_cases h2 : i + 1 < n
  · obtain ⟨hb3, hb4⟩ := hT.2 (i + 1) h2
    have e2 : (nI (i + 1)).toNatClampNeg = i + 1 := nI_clamp (by omega)
    have ij : vp_in (nI (i + 1)) 300 := nI_ix (show i + 1 < 300 by omega) (by omega)
    refine mj_brf (nI_ge h2 (by omega)) ?_
    refine mj_b1 40 rfl (ij) ?_
    rw [e2, show (t1, t2, t3, t4, nI n, fp).2.1 (i + 1) = sb (q (i + 1)) from hb3]
    refine mj_cS rfl rfl rfl rfl (c_isFigure hb4) ?_
    refine mj_b0 40 rfl ?_
    by_cases h3 : 48 ≤ q (i + 1) ∧ q (i + 1) ≤ 57
    · have hfg : ¬ fg q n i ≤ 1 := by rw [fg_t hi hf, fg_t h2 h3]; omega
      refine mj_brf (fun z => vB_0.mp z h3) ?_
      refine mj_b1 11 rfl (ij) ?_
      rw [e2, show (t1, t2, t3, t4, nI n, fp).2.1 (i + 1) = sb (q (i + 1)) from hb3, sb_fig h3]
      refine mj_sq (S' := (46, [some (.ref 21), some (.int (nI i)), some (.int (nI (nu q n i))), some (.int (nI (i + 1)))], [], fbH sc F S G Y M (t1, t2, t3, t4, nI n, fp) C V A Z)) (by
        unfold nu
        rw [if_neg hfg, show (q i - 48) * 10 + (q (i + 1) - 48) = (q i - 48) * 10 + q (i + 1) - 48 by omega, ← pk_sub (show 48 ≤ (q i - 48) * 10 + q (i + 1) by omega), ← nI_add ((q i - 48) * 10) (q (i + 1)), ← pk_mul] <;> rfl) ?_
      refine mj_b0 2 rfl ?_
      refine mj_b0 40 rfl ?_
      rw [e3, show nI (i + 1) + mj_kc 1 = nI (i + 2) from nI_add (i + 1) 1]
      refine mj_brt (nI_le (by omega) (by omega)) ?_
      refine mj_b0 40 rfl ?_
      exact mj_end rfl rfl trivial ⟨rfl, rfl⟩
    · have hfg : fg q n i ≤ 1 := by rw [fg_t hi hf, fg_f h3]; omega
      refine mj_brt (vB_0.mpr h3) ?_
      refine mj_b0 40 rfl ?_
      exact mj_end rfl rfl trivial ⟨by unfold nu; rw [if_pos hfg], rfl⟩
  · have hfg : fg q n i ≤ 1 := by rw [fg_t hi hf, fg_n (by omega)]; omega
    refine mj_brt (nI_le (by omega) (by omega)) ?_
    refine mj_b0 40 rfl ?_
    exact mj_end rfl rfl trivial ⟨by unfold nu; rw [if_pos hfg], rfl⟩
def ftA (q : Nat → Nat) (n i dp : Nat) (cn : Bool) : Nat :=
  if 48 ≤ q i ∧ q i ≤ 57 then (if cn = true then 1 else if fg q n i ≤ 2 then (if 1 ≤ nu q n i ∧ nu q n i ≤ 20 then 0 else 2) else 1)
  else if q i = 40 then (if dp < 4 then 0 else 3) else if q i = 41 then (if 0 < dp ∧ cn = false then 0 else 1)
  else if q i = 102 ∨ q i = 108 ∨ q i = 114 ∨ q i = 98 then 0 else 1
theorem nu_lt {i : Nat} (hT : tpB q n t2) (hi : i < n) : nu q n i < 5000 := by
  have h1 := (hT.2 i hi).2
  unfold nu
  split
  · omega
  · next h =>
    have hi2 : i + 1 < n := by
      rcases Nat.lt_or_ge (i + 1) n with z | z
      · exact z
      · exfalso
        apply h
        by_cases hf : isF (q i)
        · rw [fg_t hi hf, fg_n z]
          omega
        · rw [fg_f hf]
          omega
    have h2 := (hT.2 (i + 1) hi2).2
    omega
theorem c_numberFault {i : Nat} {cn : Bool} (hT : tpB q n t2) (hi : i < n) (hf : isF (q i)) : mj_C (d + 3) nX6_numberFault [.ref 21, .int (nI i), .int (bI cn)] (fbH sc F S G Y M (t1, t2, t3, t4, nI n, fp) C V A Z) (some (.int (nI (if cn = true then 1 else if fg q n i ≤ 2 then (if 1 ≤ nu q n i ∧ nu q n i ≤ 20 then 0 else 2) else 1)))) (fbH sc F S G Y M (t1, t2, t3, t4, nI n, fp) C V A Z) := by
  have hn := hT.1
  have hl := fg_le q (show i ≤ n by omega)
  have hnu := nu_lt (i := i) hT hi
  refine mj_C.of rfl rfl rfl ?_
  refine mj_b0 40 rfl ?_
  cases cn with
  | true =>
    refine mj_brt (show ¬ bI true = 0 by decide) ?_
    refine mj_b0 40 rfl ?_
    exact mj_end rfl rfl trivial ⟨rfl, rfl⟩
  | false =>
    refine mj_brf (show ¬ ¬ bI false = 0 by decide) ?_
    refine mj_b0 40 rfl ?_
    refine mj_cV rfl rfl rfl rfl rfl rfl (c_figuresFrom hT (by omega)) ?_
    refine mj_b0 40 rfl ?_
    rw [if_neg (by decide)]
    by_cases h1 : fg q n i ≤ 2
    · rw [if_pos h1]
      refine mj_brt (show nI (fg q n i) ≤ nI 2 from nI_le h1 (by omega)) ?_
      refine mj_b0 40 rfl ?_
      refine mj_cV rfl rfl rfl rfl rfl rfl (c_numberAt hT hi hf) ?_
      refine mj_b0 40 rfl ?_
      by_cases h2 : 1 ≤ nu q n i
      · refine mj_brf (show ¬ nI (nu q n i) < nI 1 from nI_nlt h2 (by omega)) ?_
        refine mj_b0 40 rfl ?_
        by_cases h3 : nu q n i ≤ 20
        · refine mj_brf (show ¬ nI 20 < nI (nu q n i) from nI_nlt h3 (by omega)) ?_
          refine mj_b0 40 rfl ?_
          exact mj_end rfl rfl trivial ⟨by rw [if_pos ⟨h2, h3⟩]; rfl, rfl⟩
        · refine mj_brt (show nI 20 < nI (nu q n i) from nI_lt (by omega) (by omega)) ?_
          refine mj_b0 40 rfl ?_
          exact mj_end rfl rfl trivial ⟨by rw [if_neg (fun z => h3 z.2)]; rfl, rfl⟩
      · refine mj_brt (show nI (nu q n i) < nI 1 from nI_lt (by omega) (by omega)) ?_
        refine mj_b0 40 rfl ?_
        exact mj_end rfl rfl trivial ⟨by rw [if_neg (fun z => h2 z.1)]; rfl, rfl⟩
    · rw [if_neg h1]
      refine mj_brf (show ¬ nI (fg q n i) ≤ nI 2 from nI_ge (by omega) (by omega)) ?_
      refine mj_b0 40 rfl ?_
      exact mj_end rfl rfl trivial ⟨rfl, rfl⟩
theorem c_faultAt {i dp : Nat} {cn : Bool} (hT : tpB q n t2) (hi : i < n) (hdp : dp ≤ 4) : mj_C (d + 4) nX6_faultAt [.ref 21, .int (nI i), .int (nI dp), .int (bI cn)] (fbH sc F S G Y M (t1, t2, t3, t4, nI n, fp) C V A Z) (some (.int (nI (ftA q n i dp cn)))) (fbH sc F S G Y M (t1, t2, t3, t4, nI n, fp) C V A Z) := by
  have hn := hT.1
  obtain ⟨hb1, hb2⟩ := hT.2 i hi
  have e1 : (nI i).toNatClampNeg = i := nI_clamp (by omega)
  unfold ftA
  refine mj_C.of rfl rfl rfl ?_
  refine mj_b1 40 rfl (nI_ix (show i < 300 by omega) (by omega)) ?_
  rw [e1, show (t1, t2, t3, t4, nI n, fp).2.1 i = sb (q i) from hb1]
  refine mj_cS rfl rfl rfl rfl (c_isFigure hb2) ?_
  refine mj_b0 40 rfl ?_
  by_cases h1 : 48 ≤ q i ∧ q i ≤ 57
  · rw [if_pos h1]
    refine mj_brf (fun z => vB_0.mp z h1) ?_
    refine mj_b0 40 rfl ?_
    refine mj_cV rfl rfl rfl rfl rfl rfl (c_numberFault hT hi h1) ?_
    exact mj_end rfl rfl trivial ⟨rfl, rfl⟩
  · rw [if_neg h1]
    refine mj_brt (vB_0.mpr h1) ?_
    refine mj_b0 40 rfl ?_
    by_cases h2 : q i = 40
    · rw [if_pos h2]
      refine mj_brf (fun z => z ((sb_eq hb2 (by decide)).mpr h2)) ?_
      refine mj_b0 40 rfl ?_
      by_cases h3 : dp < 4
      · rw [if_pos h3]
        refine mj_brf (show ¬ nI 4 ≤ nI dp from nI_ge h3 (by omega)) ?_
        refine mj_b0 40 rfl ?_
        exact mj_end rfl rfl trivial ⟨rfl, rfl⟩
      · rw [if_neg h3]
        refine mj_brt (show nI 4 ≤ nI dp from nI_le (by omega) (by omega)) ?_
        refine mj_b0 40 rfl ?_
        exact mj_end rfl rfl trivial ⟨rfl, rfl⟩
    · rw [if_neg h2]
      refine mj_brt (fun z => h2 ((sb_eq hb2 (by decide)).mp z)) ?_
      refine mj_b0 40 rfl ?_
      by_cases h3 : q i = 41
      · rw [if_pos h3]
        refine mj_brf (fun z => z ((sb_eq hb2 (by decide)).mpr h3)) ?_
        refine mj_b0 40 rfl ?_
        by_cases h4 : 0 < dp
        · refine mj_brf (nI_nle h4 (by omega)) ?_
          refine mj_b0 40 rfl ?_
          cases cn with
          | true =>
            refine mj_brt (show ¬ bI true = 0 by decide) ?_
            refine mj_b0 40 rfl ?_
            exact mj_end rfl rfl trivial ⟨by rw [if_neg (fun z => by cases z.2)]; rfl, rfl⟩
          | false =>
            refine mj_brf (show ¬ ¬ bI false = 0 by decide) ?_
            refine mj_b0 40 rfl ?_
            exact mj_end rfl rfl trivial ⟨by rw [if_pos ⟨h4, rfl⟩]; rfl, rfl⟩
        · refine mj_brt (by rw [show dp = 0 by omega]; decide) ?_
          refine mj_b0 40 rfl ?_
          exact mj_end rfl rfl trivial ⟨by rw [if_neg (fun z => h4 z.1)]; rfl, rfl⟩
      · rw [if_neg h3]
        refine mj_brt (fun z => h3 ((sb_eq hb2 (by decide)).mp z)) ?_
        refine mj_b0 40 rfl ?_
        refine mj_cS rfl rfl rfl rfl (c_isLetter hb2) ?_
        refine mj_b0 40 rfl ?_
        by_cases h4 : q i = 102 ∨ q i = 108 ∨ q i = 114 ∨ q i = 98
        · rw [if_pos h4]
          refine mj_brf (fun z => vB_0.mp z h4) ?_
          refine mj_b0 40 rfl ?_
          exact mj_end rfl rfl trivial ⟨rfl, rfl⟩
        · rw [if_neg h4]
          refine mj_brt (vB_0.mpr h4) ?_
          refine mj_b0 40 rfl ?_
          exact mj_end rfl rfl trivial ⟨rfl, rfl⟩
end TB
