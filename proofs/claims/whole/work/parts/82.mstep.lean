/-! promise 18: the model's signs -/
def tpM (q : Nat → Nat) (n : Nat) (tp : fA) : Prop := n ≤ 300 ∧ ∀ i, i < n → tp i = nI (q i) ∧ q i < 256
def LdR (q : Nat → Nat) (n : Nat) (ts : List tkT) (cu to fr nu : Int32) : Prop := match ts with
  | [] => to = nI 1 ∧ fr = nI n ∧ cu = nI n
  | (k, x, p) :: r => ∃ c', c' ≤ n ∧ tl q n c' = r ∧ cu = nI c' ∧ p < n ∧ fr = nI p ∧ (k = 3 → to = nI 3 ∧ nu = nI x ∧ x < 5000) ∧ (k = 0 → to = nI 0) ∧ (k = 2 → to = nI 2 ∧ q p = x ∧ (x = 102 ∨ x = 108 ∨ x = 114 ∨ x = 98)) ∧ (k = 4 → to = nI 4 ∧ q p = 40) ∧ (k = 5 → to = nI 4 ∧ q p = 41) ∧ (k = 0 ∨ k = 2 ∨ k = 3 ∨ k = 4 ∨ k = 5)
def nE (q : Nat → Nat) (p e : Nat) : Nat := if e = 0 then 0 else if e = 1 then q p - 48 else (q p - 48) * 10 + (q (p + 1) - 48)
theorem nE_nu {q : Nat → Nat} {n i : Nat} (h : 1 ≤ fg q n i) : nE q i (fg q n i) = nu q n i := by
  unfold nE nu
  rw [if_neg (by omega)]
  by_cases h1 : fg q n i = 1
  · rw [if_pos h1, if_pos (by omega)]
  · rw [if_neg h1, if_neg (by omega)]
theorem nu_lt2 {q : Nat → Nat} {n i : Nat} (hq : ∀ i, i < n → q i < 256) (hi : i < n) : nu q n i < 5000 := by
  have h1 := hq i hi
  unfold nu
  split
  · omega
  · next h =>
    have hi2 : i + 1 < n := by
      rcases Nat.lt_or_ge (i + 1) n with z | z
      · exact z
      · exfalso
        apply h
        by_cases hf : isF (q i)
        · rw [fg_t hi hf, fg_n z]
          omega
        · rw [fg_f hf]
          omega
    have h2 := hq (i + 1) hi2
    omega
section MS1
variable {P : fP} {U : fU} {s : fA × fA × fA} {g : fG} {w : fW} {m : fM} {c : fA × fA × fA} {v : fA × fA} {a : fA × Int32} {d : Nat}
variable {tp be le : fA} {mk : fL} {ta la cu to fr nu : Int32} {q : Nat → Nat} {n : Nat}
theorem m_byteAt {i : Nat} (hT : tpM q n tp) (hi : i < 2 ^ 30) : mj_C (d + 1) nX9_byteAt [.ref 35, .int (nI i)] (fbP P (mdZ U s g w m ((tp, be, le, mk), ta, la, nI n, cu, to, fr, nu) c v a)) (some (.int (if i < n then nI (q i) else NO))) (fbP P (mdZ U s g w m ((tp, be, le, mk), ta, la, nI n, cu, to, fr, nu) c v a)) := by
  have hn := hT.1
  have e1 : (nI i).toNatClampNeg = i := nI_clamp (by omega)
  refine mj_C.of rfl rfl rfl ?_
  refine mj_b0 40 rfl ?_
  by_cases h1 : i < n
  · refine mj_brf (nI_ge h1 (by omega)) ?_
    refine mj_b1 40 rfl (nI_ix (show i < 300 by omega) (by omega)) ?_
    rw [e1]
    exact mj_end rfl rfl trivial ⟨by rw [if_pos h1, show ((tp, be, le, mk), ta, la, nI n, cu, to, fr, nu).1.1 i = nI (q i) from (hT.2 i h1).1], rfl⟩
  · refine mj_brt (nI_le (by omega) (by omega)) ?_
    refine mj_b0 40 rfl ?_
    exact mj_end rfl rfl trivial ⟨by rw [if_neg h1], rfl⟩
theorem m_isFigure {hh : mj_H} (x : Int32) : mj_C (d + 1) nX9_isFigure [.int x] hh (some (.int (vB (¬ x < nI 48 ∧ ¬ nI 57 < x)))) hh := by
  refine mj_C.of rfl rfl rfl ?_
  refine mj_b0 40 rfl ?_
  refine mj_br (fun h1 => ?_) (fun h1 => ?_)
  · refine mj_b0 40 rfl ?_
    exact mj_end rfl rfl (Or.inl rfl) ⟨by rw [vB_f (fun q => q.1 h1)]; rfl, rfl⟩
  · refine mj_b0 40 rfl ?_
    refine mj_br (fun h2 => ?_) (fun h2 => ?_)
    · refine mj_b0 40 rfl ?_
      exact mj_end rfl rfl (Or.inl rfl) ⟨by rw [vB_f (fun q => q.2 h2)]; rfl, rfl⟩
    · refine mj_b0 40 rfl ?_
      exact mj_end rfl rfl (Or.inr rfl) ⟨by rw [vB_t ⟨h1, h2⟩]; rfl, rfl⟩
theorem fig_iff {i : Nat} (hT : tpM q n tp) : (¬ (if i < n then nI (q i) else NO) < nI 48 ∧ ¬ nI 57 < (if i < n then nI (q i) else NO)) ↔ (i < n ∧ 48 ≤ q i ∧ q i ≤ 57) := by
  by_cases h : i < n
  · have hq := (hT.2 i h).2
    rw [if_pos h, nI_ltI (by omega) (by omega), nI_ltI (by omega) (by omega)]
    omega
  · rw [if_neg h]
    exact ⟨fun z => absurd (show NO < nI 48 by decide) z.1, fun z => absurd z.1 h⟩
/-- the figures of a number, one behind another -/
theorem lm_figs {p : Nat} {o1 : Option Value} {Q : Option Value → mj_H → Prop} (hT : tpM q n tp) (hp : p < n) (kk : mj_R (mj_C (d + 1)) 9 false none iX9_step (152, [some (.ref 35), o1], [], fbP P (mdZ U s g w m ((tp, be, le, mk), ta, la, nI n, nI (p + fg q n p), to, nI p, nI (nE q p (fg q n p))) c v a)) Q) : ∀ j e, j + e = fg q n p → fg q n (p + e) = j → mj_R (mj_C (d + 1)) 9 false none iX9_step (82, [some (.ref 35), o1], [], fbP P (mdZ U s g w m ((tp, be, le, mk), ta, la, nI n, nI (p + e), to, nI p, nI (nE q p e)) c v a)) Q := by
  have hn := hT.1
  have hl := fg_le q (show p ≤ n by omega)
  intro j
  induction j with
  | zero =>
    intro e he hz
    have hnf : ¬ (p + e < n ∧ 48 ≤ q (p + e) ∧ q (p + e) ≤ 57) := fun z => by
      rw [fg_t z.1 z.2] at hz
      omega
    have hee : e = fg q n p := by omega
    refine mj_b0 40 rfl ?_
    refine mj_cV rfl rfl rfl rfl rfl rfl (m_byteAt hT (show p + e < 2 ^ 30 by omega)) ?_
    refine mj_cS rfl rfl rfl rfl (m_isFigure _) ?_
    refine mj_b0 40 rfl ?_
    refine mj_brt (vB_0.mpr (fun z => hnf ((fig_iff hT).mp z))) ?_
    rw [hee]
    exact kk
  | succ j ih =>
    intro e he hz
    have hif : p + e < n ∧ 48 ≤ q (p + e) ∧ q (p + e) ≤ 57 := by
      have h1 : p + e < n := by
        rcases Nat.lt_or_ge (p + e) n with z | z
        · exact z
        · rw [fg_n z] at hz
          omega
      refine ⟨h1, ?_⟩
      by_cases z : isF (q (p + e))
      · exact z
      · rw [fg_f z] at hz
        omega
    have hq := (hT.2 (p + e) hif.1).2
    have ih := ih (e + 1) (by omega) (by
      rw [fg_t hif.1 hif.2] at hz
      rw [← Nat.add_assoc]
      omega)
    rw [← Nat.add_assoc, ← nI_add (p + e) 1] at ih
    refine mj_b0 40 rfl ?_
    refine mj_cV rfl rfl rfl rfl rfl rfl (m_byteAt hT (show p + e < 2 ^ 30 by omega)) ?_
    refine mj_cS rfl rfl rfl rfl (m_isFigure _) ?_
    refine mj_b0 40 rfl ?_
    refine mj_brf (fun z => vB_0.mp z ((fig_iff hT).mpr hif)) ?_
    refine mj_b0 40 rfl ?_
    rw [pk_sub (show p ≤ p + e by omega), show p + e - p = e by omega]
    by_cases h2 : e < 2
    · refine mj_brf (show ¬ nI 2 ≤ nI e from nI_ge h2 (by omega)) ?_
      refine mj_b0 40 rfl ?_
      refine mj_cV rfl rfl rfl rfl rfl rfl (m_byteAt hT (show p + e < 2 ^ 30 by omega)) ?_
      rw [if_pos hif.1]
      have ev : nI 10 * nI (nE q p e) + nI (q (p + e)) - nI 48 = nI (nE q p (e + 1)) := by
        rw [pk_mul, nI_add, pk_sub (by omega)]
        unfold nE
        rcases (show e = 0 ∨ e = 1 by omega) with rfl | rfl
        · rw [if_pos rfl, if_neg (by omega), if_pos rfl, Nat.mul_zero, Nat.zero_add, Nat.add_zero]
        · rw [if_neg (by omega), if_pos rfl, if_neg (by omega), if_neg (by omega)]
          have h48 := hif.2.1
          rw [show 10 * (q p - 48) + q (p + 1) - 48 = (q p - 48) * 10 + (q (p + 1) - 48) by omega]
      refine mj_b0 3 rfl ?_
      refine mj_sq (S' := (129, [some (.ref 35), o1], [.int (nI (nE q p (e + 1))), .ref 35], fbP P (mdZ U s g w m ((tp, be, le, mk), ta, la, nI n, nI (p + e), to, nI p, nI (nE q p e)) c v a))) (by rw [← ev] <;> rfl) ?_
      refine mj_b0 2 rfl ?_
      refine mj_hq (h' := fbP P (mdZ U s g w m ((tp, be, le, mk), ta, la, nI n, nI (p + e), to, nI p, nI (nE q p (e + 1))) c v a)) rfl ?_
      refine mj_b0 7 rfl ?_
      exact ih
    · have ev : nE q p (e + 1) = nE q p e := by
        unfold nE
        rw [if_neg (by omega), if_neg (by omega), if_neg (by omega), if_neg (by omega)]
      rw [ev] at ih
      refine mj_brt (show nI 2 ≤ nI e from nI_le (by omega) (by omega)) ?_
      refine mj_b0 3 rfl ?_
      refine mj_hq (h' := fbP P (mdZ U s g w m ((tp, be, le, mk), ta, la, nI n, nI (p + e), to, nI p, nI (nE q p e)) c v a)) rfl ?_
      refine mj_b0 7 rfl ?_
      exact ih
theorem x_step : ∀ (j i : Nat) (to fr nu : Int32), tpM q n tp → n - i ≤ j → i ≤ n → ∃ r2 h2, (∀ Q' : Option Value → mj_H → Prop, Q' r2 h2 → mj_R (mj_C (d + 1)) 9 false none iX9_step (0, [some (.ref 35), none], [], fbP P (mdZ U s g w m ((tp, be, le, mk), ta, la, nI n, nI i, to, fr, nu) c v a)) Q') ∧ r2 = none ∧ ∃ cu' to' fr' nu', LdR q n (tl q n i) cu' to' fr' nu' ∧ h2 = fbP P (mdZ U s g w m ((tp, be, le, mk), ta, la, nI n, cu', to', fr', nu') c v a) := by
  intro j
  induction j with
  | zero =>
    intro i to fr nu hT hj hi
    have hn := hT.1
    have hin : i = n := by omega
    subst hin
    refine ⟨none, _, fun Q' hQ => ?_, rfl, nI i, nI 1, nI i, nu, ?_, rfl⟩
    · have hb : (if i < i then nI (q i) else NO) = NO := if_neg (by omega)
      refine mj_b0 40 rfl ?_
      refine mj_cV rfl rfl rfl rfl rfl rfl (m_byteAt hT (show i < 2 ^ 30 by omega)) ?_
      rw [hb]
      refine mj_b0 40 rfl ?_
      refine mj_brf (show ¬ NO = nI 32 by decide) ?_
      refine mj_b0 40 rfl ?_
      refine mj_cV rfl rfl rfl rfl rfl rfl (m_byteAt hT (show i < 2 ^ 30 by omega)) ?_
      rw [hb]
      refine mj_b0 40 rfl ?_
      refine mj_brt (show ¬ NO = nI 10 by decide) ?_
      refine mj_b0 40 rfl ?_
      refine mj_hq (h' := fbP P (mdZ U s g w m ((tp, be, le, mk), ta, la, nI i, nI i, to, nI i, nu) c v a)) rfl ?_
      refine mj_cV rfl rfl rfl rfl rfl rfl (m_byteAt hT (show i < 2 ^ 30 by omega)) ?_
      rw [hb]
      refine mj_b0 40 rfl ?_
      refine mj_brf (show ¬ ¬ NO = NO by decide) ?_
      refine mj_b0 40 rfl ?_
      exact mj_end rfl rfl trivial hQ
    · rw [tl_n (Nat.le_refl _)]
      exact ⟨rfl, rfl, rfl⟩
  | succ j ih =>
    intro i to fr nu hT hj hi
    have hn := hT.1
    rcases Nat.lt_or_ge i n with hin | hin
    rotate_left
    · exact ih i to fr nu hT (by omega) hi
    have hq := (hT.2 i hin).2
    have hb : (if i < n then nI (q i) else NO) = nI (q i) := if_pos hin
    by_cases hbl : q i = 32 ∨ q i = 10
    · obtain ⟨r2, h2, k1, k2, k3⟩ := ih (i + 1) to fr nu hT (by omega) (by omega)
      refine ⟨r2, h2, fun Q' hQ => ?_, k2, by rw [tl_b hin hbl]; exact k3⟩
      have k4 := k1 Q' hQ
      rw [← nI_add i 1] at k4
      have fin : mj_R (mj_C (d + 1)) 9 false none iX9_step (26, [some (.ref 35), none], [], fbP P (mdZ U s g w m ((tp, be, le, mk), ta, la, nI n, nI i, to, fr, nu) c v a)) Q' := by
        refine mj_b0 7 rfl ?_
        exact k4
      refine mj_b0 40 rfl ?_
      refine mj_cV rfl rfl rfl rfl rfl rfl (m_byteAt hT (show i < 2 ^ 30 by omega)) ?_
      rw [hb]
      refine mj_b0 40 rfl ?_
      by_cases h1 : q i = 32
      · refine mj_brt (by rw [h1]; rfl) ?_
        exact fin
      · refine mj_brf (fun z => h1 ((nI_eq (b := 32) (by omega) (by omega)).mp z)) ?_
        refine mj_b0 40 rfl ?_
        refine mj_cV rfl rfl rfl rfl rfl rfl (m_byteAt hT (show i < 2 ^ 30 by omega)) ?_
        rw [hb]
        refine mj_b0 40 rfl ?_
        refine mj_brf (fun z => z (by rw [hbl.resolve_left h1]; rfl)) ?_
        exact fin
    · have h32 : ¬ q i = 32 := fun z => hbl (Or.inl z)
      have h10 : ¬ q i = 10 := fun z => hbl (Or.inr z)
      have enter : ∀ Q' : Option Value → mj_H → Prop, mj_R (mj_C (d + 1)) 9 false none iX9_step (70, [some (.ref 35), some (.int (nI (q i)))], [], fbP P (mdZ U s g w m ((tp, be, le, mk), ta, la, nI n, nI i, to, nI i, nu) c v a)) Q' → mj_R (mj_C (d + 1)) 9 false none iX9_step (0, [some (.ref 35), none], [], fbP P (mdZ U s g w m ((tp, be, le, mk), ta, la, nI n, nI i, to, fr, nu) c v a)) Q' := by
        intro Q' k4
        refine mj_b0 40 rfl ?_
        refine mj_cV rfl rfl rfl rfl rfl rfl (m_byteAt hT (show i < 2 ^ 30 by omega)) ?_
        rw [hb]
        refine mj_b0 40 rfl ?_
        refine mj_brf (fun z => h32 ((nI_eq (b := 32) (by omega) (by omega)).mp z)) ?_
        refine mj_b0 40 rfl ?_
        refine mj_cV rfl rfl rfl rfl rfl rfl (m_byteAt hT (show i < 2 ^ 30 by omega)) ?_
        rw [hb]
        refine mj_b0 40 rfl ?_
        refine mj_brt (fun z => h10 ((nI_eq (b := 10) (by omega) (by omega)).mp z)) ?_
        refine mj_b0 40 rfl ?_
        refine mj_hq (h' := fbP P (mdZ U s g w m ((tp, be, le, mk), ta, la, nI n, nI i, to, nI i, nu) c v a)) rfl ?_
        refine mj_cV rfl rfl rfl rfl rfl rfl (m_byteAt hT (show i < 2 ^ 30 by omega)) ?_
        rw [hb]
        refine mj_b0 40 rfl ?_
        refine mj_brt (nI_ne_NO (by omega)) ?_
        exact k4
      have hfi : (¬ nI (q i) < nI 48 ∧ ¬ nI 57 < nI (q i)) ↔ (48 ≤ q i ∧ q i ≤ 57) := by
        rw [nI_ltI (by omega) (by omega), nI_ltI (by omega) (by omega)]
        omega
      by_cases hf : 48 ≤ q i ∧ q i ≤ 57
      · have hft := fg_t (q := q) hin hf
        have hfl := fg_le q (show i ≤ n by omega)
        refine ⟨none, _, fun Q' hQ => enter Q' ?_, rfl, nI (i + fg q n i), (if fg q n i ≤ 2 then nI 3 else nI 0), nI i, nI (nE q i (fg q n i)), ?_, rfl⟩
        · refine mj_b0 40 rfl ?_
          refine mj_cS rfl rfl rfl rfl (m_isFigure (nI (q i))) ?_
          refine mj_b0 40 rfl ?_
          refine mj_brf (fun z => vB_0.mp z (hfi.mpr hf)) ?_
          refine mj_b0 3 rfl ?_
          refine lm_figs hT hin ?_ (fg q n i) 0 (by omega) (by rw [Nat.add_zero])
          refine mj_b0 40 rfl ?_
          rw [pk_sub (show i ≤ i + fg q n i by omega), show i + fg q n i - i = fg q n i by omega]
          by_cases h2 : fg q n i ≤ 2
          · rw [if_pos h2] at hQ
            refine mj_brt (show nI (fg q n i) ≤ nI 2 from nI_le h2 (by omega)) ?_
            refine mj_b0 40 rfl ?_
            exact mj_end rfl rfl trivial hQ
          · rw [if_neg h2] at hQ
            refine mj_brf (show ¬ nI (fg q n i) ≤ nI 2 from nI_ge (by omega) (by omega)) ?_
            refine mj_b0 40 rfl ?_
            exact mj_end rfl rfl trivial hQ
        · rw [tl_f hin hf]
          have hnu := nE_nu (q := q) (n := n) (i := i) (by omega)
          by_cases h2 : fg q n i ≤ 2
          · rw [if_pos h2, if_pos h2]
            exact ⟨i + fg q n i, hfl, rfl, rfl, hin, rfl, fun _ => ⟨rfl, by rw [hnu], nu_lt2 (fun i hi => (hT.2 i hi).2) hin⟩, fun z => absurd z (by omega), fun z => absurd z (by omega), fun z => absurd z (by omega), fun z => absurd z (by omega), by omega⟩
          · rw [if_neg h2, if_neg h2]
            exact ⟨i + fg q n i, hfl, rfl, rfl, hin, rfl, fun z => absurd z (by omega), fun _ => rfl, fun z => absurd z (by omega), fun z => absurd z (by omega), fun z => absurd z (by omega), by omega⟩
      · have nq : ∀ x, x < 2 ^ 31 → (nI (q i) = nI x ↔ q i = x) := fun x hx => nI_eq (by omega) hx
        refine ⟨none, _, fun Q' hQ => enter Q' ?_, rfl, nI (i + 1), (if q i = 102 ∨ q i = 108 ∨ q i = 114 ∨ q i = 98 then nI 2 else if q i = 40 ∨ q i = 41 then nI 4 else nI 0), nI i, nu, ?_, rfl⟩
        · rw [← nI_add i 1] at hQ
          have fin : ∀ x, x = (if q i = 102 ∨ q i = 108 ∨ q i = 114 ∨ q i = 98 then nI 2 else if q i = 40 ∨ q i = 41 then nI 4 else nI 0) → mj_R (mj_C (d + 1)) 9 false none iX9_step (233, [some (.ref 35), some (.int (nI (q i)))], [.int x, .ref 35], fbP P (mdZ U s g w m ((tp, be, le, mk), ta, la, nI n, nI i + nI 1, to, nI i, nu) c v a)) Q' := by
            intro x hx
            refine mj_b0 40 rfl ?_
            exact mj_end rfl rfl trivial (by rw [← hx] at hQ; exact hQ)
          refine mj_b0 40 rfl ?_
          refine mj_cS rfl rfl rfl rfl (m_isFigure (nI (q i))) ?_
          refine mj_b0 40 rfl ?_
          refine mj_brt (vB_0.mpr (fun z => hf (hfi.mp z))) ?_
          refine mj_b0 40 rfl ?_
          refine mj_hq (h' := fbP P (mdZ U s g w m ((tp, be, le, mk), ta, la, nI n, nI i + nI 1, to, nI i, nu) c v a)) rfl ?_
          by_cases h1 : q i = 102
          · refine mj_brt ((nq 102 (by omega)).mpr h1) ?_
            refine mj_b0 2 rfl ?_
            exact fin _ (by rw [if_pos (Or.inl h1)]; rfl)
          refine mj_brf (fun z => h1 ((nq 102 (by omega)).mp z)) ?_
          refine mj_b0 40 rfl ?_
          by_cases h2 : q i = 108
          · refine mj_brt ((nq 108 (by omega)).mpr h2) ?_
            refine mj_b0 2 rfl ?_
            exact fin _ (by rw [if_pos (Or.inr (Or.inl h2))]; rfl)
          refine mj_brf (fun z => h2 ((nq 108 (by omega)).mp z)) ?_
          refine mj_b0 40 rfl ?_
          by_cases h3 : q i = 114
          · refine mj_brt ((nq 114 (by omega)).mpr h3) ?_
            refine mj_b0 2 rfl ?_
            exact fin _ (by rw [if_pos (Or.inr (Or.inr (Or.inl h3)))]; rfl)
          refine mj_brf (fun z => h3 ((nq 114 (by omega)).mp z)) ?_
          refine mj_b0 40 rfl ?_
          by_cases h4 : q i = 98
          · refine mj_brf (fun z => z ((nq 98 (by omega)).mpr h4)) ?_
            refine mj_b0 2 rfl ?_
            exact fin _ (by rw [if_pos (Or.inr (Or.inr (Or.inr h4)))]; rfl)
          refine mj_brt (fun z => h4 ((nq 98 (by omega)).mp z)) ?_
          refine mj_b0 40 rfl ?_
          have hnl : ¬ (q i = 102 ∨ q i = 108 ∨ q i = 114 ∨ q i = 98) := by omega
          by_cases h5 : q i = 40
          · refine mj_brt ((nq 40 (by omega)).mpr h5) ?_
            refine mj_b0 2 rfl ?_
            exact fin _ (by rw [if_neg hnl, if_pos (Or.inl h5)]; rfl)
          refine mj_brf (fun z => h5 ((nq 40 (by omega)).mp z)) ?_
          refine mj_b0 40 rfl ?_
          by_cases h6 : q i = 41
          · refine mj_brf (fun z => z ((nq 41 (by omega)).mpr h6)) ?_
            refine mj_b0 2 rfl ?_
            exact fin _ (by rw [if_neg hnl, if_pos (Or.inr h6)]; rfl)
          refine mj_brt (fun z => h6 ((nq 41 (by omega)).mp z)) ?_
          refine mj_b0 1 rfl ?_
          exact fin _ (by rw [if_neg hnl, if_neg (by omega)]; rfl)
        · rw [tl_o hin hbl hf]
          refine ⟨i + 1, by omega, rfl, rfl, hin, rfl, ?_⟩
          unfold kdT
          by_cases h1 : q i = 102 ∨ q i = 108 ∨ q i = 114 ∨ q i = 98
          · rw [if_pos h1, if_pos h1]
            exact ⟨fun z => absurd z (by omega), fun z => absurd z (by omega), fun _ => ⟨rfl, rfl, h1⟩, fun z => absurd z (by omega), fun z => absurd z (by omega), by omega⟩
          · rw [if_neg h1, if_neg h1]
            by_cases h2 : q i = 40
            · rw [if_pos h2, if_pos (Or.inl h2)]
              exact ⟨fun z => absurd z (by omega), fun z => absurd z (by omega), fun z => absurd z (by omega), fun _ => ⟨rfl, h2⟩, fun z => absurd z (by omega), by omega⟩
            · rw [if_neg h2]
              by_cases h3 : q i = 41
              · rw [if_pos h3, if_pos (Or.inr h3)]
                exact ⟨fun z => absurd z (by omega), fun z => absurd z (by omega), fun z => absurd z (by omega), fun z => absurd z (by omega), fun _ => ⟨rfl, h3⟩, by omega⟩
              · rw [if_neg h3, if_neg (by omega)]
                exact ⟨fun z => absurd z (by omega), fun _ => rfl, fun z => absurd z (by omega), fun z => absurd z (by omega), fun z => absurd z (by omega), by omega⟩
theorem m_step {i : Nat} (hT : tpM q n tp) (hi : i ≤ n) : ∃ cu' to' fr' nu', LdR q n (tl q n i) cu' to' fr' nu' ∧ mj_C (d + 2) nX9_step [.ref 35] (fbP P (mdZ U s g w m ((tp, be, le, mk), ta, la, nI n, nI i, to, fr, nu) c v a)) none (fbP P (mdZ U s g w m ((tp, be, le, mk), ta, la, nI n, cu', to', fr', nu') c v a)) := by
  obtain ⟨r2, h2, k1, rfl, cu', to', fr', nu', k3, rfl⟩ := x_step (P := P) (U := U) (s := s) (g := g) (w := w) (m := m) (c := c) (v := v) (a := a) (d := d) (be := be) (le := le) (mk := mk) (ta := ta) (la := la) (n - i) i to fr nu hT (Nat.le_refl _) hi
  refine ⟨cu', to', fr', nu', k3, ?_⟩
  refine mj_C.of rfl rfl rfl ?_
  exact k1 _ ⟨rfl, rfl⟩
end MS1
