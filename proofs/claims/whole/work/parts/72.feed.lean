/-! promise 17, side by side -/
theorem byte_ok (z : Int64) : ∃ q : Nat, q < 256 ∧ (z &&& 255).toInt32 = nI q ∧ z.toInt32.toInt8.toInt32 = (nI q).toInt8.toInt32 := by
  refine ⟨z.toBitVec.toNat % 256, Nat.mod_lt _ (by decide), ?_, ?_⟩
  · rw [← Int32.toBitVec_inj, Int64.toBitVec_toInt32, BitVec.signExtend_eq_setWidth_of_le _ (by decide)]
    apply BitVec.eq_of_toNat_eq
    rw [BitVec.toNat_setWidth, Int64.toBitVec_and, BitVec.toNat_and]
    have e : (255 : Int64).toBitVec.toNat = 2 ^ 8 - 1 := by decide
    rw [e, Nat.and_two_pow_sub_one_eq_mod, pk_tn (by omega)]
    omega
  · have e : z.toInt32.toInt8 = (nI (z.toBitVec.toNat % 256)).toInt8 := by
      rw [← Int8.toBitVec_inj, Int32.toBitVec_toInt8, Int32.toBitVec_toInt8, BitVec.signExtend_eq_setWidth_of_le _ (by decide), BitVec.signExtend_eq_setWidth_of_le _ (by decide), Int64.toBitVec_toInt32, BitVec.signExtend_eq_setWidth_of_le _ (by decide)]
      apply BitVec.eq_of_toNat_eq
      rw [BitVec.toNat_setWidth, BitVec.toNat_setWidth, BitVec.toNat_setWidth, pk_tn (by omega)]
      omega
    rw [e]
def fdL (f : fA) (L : Nat) (v : Nat → Int32) : Nat → fA
  | 0 => f
  | q + 1 => upd (fdL f L v q) (L + q) (v q)
theorem fdL_out {f : fA} {L : Nat} {v : Nat → Int32} : ∀ {n i : Nat}, i < L → fdL f L v n i = f i
  | 0, i, _ => rfl
  | n + 1, i, h => by
    simp only [fdL]
    rw [pk_un (by omega), fdL_out h]
theorem fdL_in {f : fA} {L : Nat} {v : Nat → Int32} : ∀ {n i : Nat}, i < n → fdL f L v n (L + i) = v i
  | 0, i, h => absurd h (by omega)
  | n + 1, i, h => by
    simp only [fdL]
    by_cases e : i = n
    · rw [e, pk_us]
    · rw [pk_un (by omega), fdL_in (by omega)]
def shf (w : Int64) (n q : Nat) : Int64 := f_lshr w (nI 8 * (nI (n - q) - nI 1))
section FD
variable {sc : mj_E} {F : Int32 × Int32} {S : fA × fA × fA} {G : fG} {Y : fY} {M : fM} {C : fC} {V : fV} {A : fA × Int32} {Z : mj_H} {d : Nat}
variable {t1 t2 t3 t4 : fA} {fp : Int32}
theorem i8i (x : Int32) : x.toInt8.toInt32.toInt8.toInt32 = x.toInt8.toInt32 := by simp
theorem c_take {n L : Nat} {w : Int64} (hn : n ≤ 8) (hL : L + n ≤ 300) : mj_C (d + 1) nX6_take [.ref 21, .long w, .int (nI n)] (fbH sc F S G Y M (t1, t2, t3, t4, nI L, fp) C V A Z) (some (.int (nI 1))) (fbH sc F S G Y M (t1, fdL t2 L (fun q => (shf w n q).toInt32.toInt8.toInt32) n, t3, t4, nI (L + n), fp) C V A Z) := by
  refine mj_C.of rfl rfl rfl ?_
  refine mj_b0 40 rfl ?_
  refine mj_brt (by rw [show mj_kc 300 - (t1, t2, t3, t4, nI L, fp).2.2.2.2.1 = nI (300 - L) from pk_sub (a := 300) (b := L) (by omega)]; exact nI_le (by omega) (by omega)) ?_
  refine mj_b0 4 rfl ?_
  refine mj_iter (fun q => (19, [some (.ref 21), some (.long w), none, some (.int (nI n)), some (.int (nI (n - q) - nI 1))], [], fbH sc F S G Y M (t1, fdL t2 L (fun q => (shf w n q).toInt32.toInt8.toInt32) q, t3, t4, nI (L + q), fp) C V A Z)) n (fun q hq ih => ?_) ?_
  · have es : nI (n - q) - nI 1 = nI (n - (q + 1)) := by rw [pk_sub (by omega), show n - q - 1 = n - (q + 1) by omega]
    have e1 : (nI (L + q)).toNatClampNeg = L + q := nI_clamp (by omega)
    rw [← neg_m1 hq] at ih
    refine mj_b0 40 rfl ?_
    refine mj_brf (by rw [es]; exact nI_pos (by omega)) ?_
    refine mj_b1 12 rfl (nI_ix (show L + q < 300 by omega) (by omega)) ?_
    refine mj_hq (h' := fbH sc F S G Y M (t1, fdL t2 L (fun q => (shf w n q).toInt32.toInt8.toInt32) (q + 1), t3, t4, nI (L + q), fp) C V A Z) (Eq.trans (b := fbH sc F S G Y M (t1, upd (fdL t2 L (fun q => (shf w n q).toInt32.toInt8.toInt32) q) (nI (L + q)).toNatClampNeg (shf w n q).toInt32.toInt8.toInt32.toInt8.toInt32, t3, t4, nI (L + q), fp) C V A Z) rfl (by rw [e1, i8i]; rfl)) ?_
    refine mj_b0 8 rfl ?_
    rw [← Nat.add_assoc, ← nI_add (L + q) 1] at ih
    exact ih
  · rw [Nat.sub_self]
    refine mj_b0 40 rfl ?_
    refine mj_brt (show nI 0 - nI 1 < 0 by decide) ?_
    refine mj_b0 40 rfl ?_
    exact mj_end rfl rfl (Or.inr rfl) ⟨rfl, rfl⟩
theorem c_feed_bad {n : Int32} {w : Int64} {T : fT} (hb : ¬ (¬ n < nI 1 ∧ n ≤ nI 8)) : mj_C (d + 2) nX8_feed [.ref 1, .long w, .int n] (fbH sc F S G Y M T C V A Z) (some (.int BD)) (fbH sc F S G Y M T C V A Z) := by
  refine mj_C.of rfl rfl rfl ?_
  refine mj_b0 40 rfl ?_
  refine mj_br (fun h1 => ?_) (fun h1 => ?_)
  · refine mj_b0 40 rfl ?_
    exact mj_end rfl rfl trivial ⟨rfl, rfl⟩
  · refine mj_b0 40 rfl ?_
    refine mj_br (fun h2 => ?_) (fun h2 => ?_)
    · exact absurd ⟨h1, h2⟩ hb
    · refine mj_b0 40 rfl ?_
      exact mj_end rfl rfl trivial ⟨rfl, rfl⟩
theorem c_feed_full {n L : Nat} {w : Int64} (h1 : 1 ≤ n) (hn : n ≤ 8) (hL : ¬ L + n ≤ 300) (hl : L ≤ 300) : mj_C (d + 2) nX8_feed [.ref 1, .long w, .int (nI n)] (fbH sc F S G Y M (t1, t2, t3, t4, nI L, fp) C V A Z) (some (.int (-1000003))) (fbH sc F S G Y M (t1, t2, t3, t4, nI L, fp) C V A Z) := by
  have k : mj_C (d + 1) nX6_take [.ref 21, .long w, .int (nI n)] (fbH sc F S G Y M (t1, t2, t3, t4, nI L, fp) C V A Z) (some (.int (nI 0))) (fbH sc F S G Y M (t1, t2, t3, t4, nI L, fp) C V A Z) := by
    refine mj_C.of rfl rfl rfl ?_
    refine mj_b0 40 rfl ?_
    refine mj_brf (by rw [show mj_kc 300 - (t1, t2, t3, t4, nI L, fp).2.2.2.2.1 = nI (300 - L) from pk_sub (a := 300) (b := L) (by omega)]; exact nI_ge (by omega) (by omega)) ?_
    refine mj_b0 40 rfl ?_
    exact mj_end rfl rfl (Or.inl rfl) ⟨rfl, rfl⟩
  refine mj_C.of rfl rfl rfl ?_
  refine mj_b0 40 rfl ?_
  refine mj_brf (show ¬ nI n < nI 1 from nI_nlt (by omega) (by omega)) ?_
  refine mj_b0 40 rfl ?_
  refine mj_brt (show nI n ≤ nI 8 from nI_le (by omega) (by omega)) ?_
  refine mj_b0 40 rfl ?_
  refine mj_cV rfl rfl rfl rfl rfl rfl (k) ?_
  refine mj_b0 40 rfl ?_
  refine mj_brt (show nI 0 = 0 by decide) ?_
  refine mj_b0 40 rfl ?_
  exact mj_end rfl rfl trivial ⟨rfl, rfl⟩
theorem c_feed_ok {n L : Nat} {w : Int64} (h1 : 1 ≤ n) (hn : n ≤ 8) (hL : L + n ≤ 300) : mj_C (d + 2) nX8_feed [.ref 1, .long w, .int (nI n)] (fbH sc F S G Y M (t1, t2, t3, t4, nI L, fp) C V A Z) (some (.int (nI (L + n)))) (fbH sc F S G Y M (t1, fdL t2 L (fun q => (shf w n q).toInt32.toInt8.toInt32) n, t3, t4, nI (L + n), fp) C V A Z) := by
  refine mj_C.of rfl rfl rfl ?_
  refine mj_b0 40 rfl ?_
  refine mj_brf (show ¬ nI n < nI 1 from nI_nlt (by omega) (by omega)) ?_
  refine mj_b0 40 rfl ?_
  refine mj_brt (show nI n ≤ nI 8 from nI_le (by omega) (by omega)) ?_
  refine mj_b0 40 rfl ?_
  refine mj_cV rfl rfl rfl rfl rfl rfl (c_take hn hL) ?_
  refine mj_b0 40 rfl ?_
  refine mj_brf (show ¬ nI 1 = 0 by decide) ?_
  refine mj_b0 40 rfl ?_
  exact mj_end rfl rfl trivial ⟨rfl, rfl⟩
end FD
section FDm
variable {P : fP} {U : fU} {s : fA × fA × fA} {g : fG} {w : fW} {m : fM} {c : fA × fA × fA} {v : fA × fA} {a : fA × Int32} {d : Nat}
variable {r1 : fA} {r2 : fA × fA × fL} {r3 : Int32 × Int32 × Int32 × Int32 × Int32 × Int32}
theorem m_feed_bad {n : Int32} {x : Int64} {t : fR} (hb : ¬ (¬ n < nI 1 ∧ ¬ nI 8 < n)) : mj_C (d + 2) nX9_feed [.ref 35, .long x, .int n] (fbP P (mdZ U s g w m t c v a)) (some (.int BD)) (fbP P (mdZ (nI 0, U.2) s g w m t c v a)) := by
  refine mj_C.of rfl rfl rfl ?_
  refine mj_b0 40 rfl ?_
  refine mj_hq (h' := (fbP P (mdZ (nI 0, U.2) s g w m t c v a))) rfl ?_
  refine mj_cS rfl rfl rfl rfl (m_in32 n (nI 1) (nI 8) (by decide) (by decide)) ?_
  refine mj_b0 40 rfl ?_
  refine mj_brf (fun z => z (vB_0.mpr hb)) ?_
  refine mj_b0 40 rfl ?_
  exact mj_end rfl rfl trivial ⟨rfl, rfl⟩
theorem m_feed_full {n L : Nat} {x : Int64} (h1 : 1 ≤ n) (hn : n ≤ 8) (hL : ¬ L + n ≤ 300) (hl : L ≤ 300) : mj_C (d + 2) nX9_feed [.ref 35, .long x, .int (nI n)] (fbP P (mdZ U s g w m ((r1, r2), nI L, r3) c v a)) (some (.int (-1000003))) (fbP P (mdZ (nI 0, U.2) s g w m ((r1, r2), nI L, r3) c v a)) := by
  refine mj_C.of rfl rfl rfl ?_
  refine mj_b0 40 rfl ?_
  refine mj_hq (h' := fbP P (mdZ (nI 0, U.2) s g w m ((r1, r2), nI L, r3) c v a)) rfl ?_
  refine mj_cS rfl rfl rfl rfl (m_in32 (nI n) (nI 1) (nI 8) (by decide) (by decide)) ?_
  refine mj_b0 40 rfl ?_
  refine mj_brt (fun z => vB_0.mp z ⟨nI_nlt (by omega) (by omega), nI_nlt (by omega) (by omega)⟩) ?_
  refine mj_b0 40 rfl ?_
  refine mj_brf (show ¬ nI L + nI n ≤ nI 300 by rw [nI_add]; exact nI_ge (by omega) (by omega)) ?_
  refine mj_b0 40 rfl ?_
  exact mj_end rfl rfl trivial ⟨rfl, rfl⟩
theorem m_feed_ok {n L : Nat} {x : Int64} (h1 : 1 ≤ n) (hn : n ≤ 8) (hL : L + n ≤ 300) : mj_C (d + 2) nX9_feed [.ref 35, .long x, .int (nI n)] (fbP P (mdZ U s g w m ((r1, r2), nI L, r3) c v a)) (some (.int (nI (L + n)))) (fbP P (mdZ (nI 0, U.2) s g w m ((fdL r1 L (fun q => (shf x n q &&& 255).toInt32) n, r2), nI (L + n), r3) c v a)) := by
  refine mj_C.of rfl rfl rfl ?_
  refine mj_b0 40 rfl ?_
  refine mj_hq (h' := fbP P (mdZ (nI 0, U.2) s g w m ((r1, r2), nI L, r3) c v a)) rfl ?_
  refine mj_cS rfl rfl rfl rfl (m_in32 (nI n) (nI 1) (nI 8) (by decide) (by decide)) ?_
  refine mj_b0 40 rfl ?_
  refine mj_brt (fun z => vB_0.mp z ⟨nI_nlt (by omega) (by omega), nI_nlt (by omega) (by omega)⟩) ?_
  refine mj_b0 40 rfl ?_
  refine mj_brt (show nI L + nI n ≤ nI 300 by rw [nI_add]; exact nI_le (by omega) (by omega)) ?_
  refine mj_b0 4 rfl ?_
  refine mj_iter (fun q => (40, [some (.ref 35), some (.long x), none, some (.int (nI n)), some (.int (nI (n - q) - nI 1))], [], fbP P (mdZ (nI 0, U.2) s g w m ((fdL r1 L (fun q => (shf x n q &&& 255).toInt32) q, r2), nI (L + q), r3) c v a))) n (fun q hq ih => ?_) ?_
  · have es : nI (n - q) - nI 1 = nI (n - (q + 1)) := by rw [pk_sub (by omega), show n - q - 1 = n - (q + 1) by omega]
    have e1 : (nI (L + q)).toNatClampNeg = L + q := nI_clamp (by omega)
    rw [← neg_m1 hq] at ih
    refine mj_b0 40 rfl ?_
    refine mj_brf (by rw [es]; exact nI_pos (by omega)) ?_
    refine mj_b1 13 rfl (nI_ix (show L + q < 300 by omega) (by omega)) ?_
    refine mj_hq (h' := fbP P (mdZ (nI 0, U.2) s g w m ((fdL r1 L (fun q => (shf x n q &&& 255).toInt32) (q + 1), r2), nI (L + q), r3) c v a)) (Eq.trans (b := fbP P (mdZ (nI 0, U.2) s g w m ((upd (fdL r1 L (fun q => (shf x n q &&& 255).toInt32) q) (nI (L + q)).toNatClampNeg (shf x n q &&& 255).toInt32, r2), nI (L + q), r3) c v a)) rfl (by rw [e1]; rfl)) ?_
    refine mj_b0 8 rfl ?_
    rw [← Nat.add_assoc, ← nI_add (L + q) 1] at ih
    exact ih
  · rw [Nat.sub_self]
    refine mj_b0 40 rfl ?_
    refine mj_brt (show nI 0 - nI 1 < 0 by decide) ?_
    refine mj_b0 40 rfl ?_
    exact mj_end rfl rfl trivial ⟨rfl, rfl⟩
end FDm
section FDS
variable {d : Nat}
/-- promise 17 -/
theorem s_feed (x : Int64) (n : Int32) : Sim (d + 2) nX8_feed nX9_feed [.long x, .int n] := by
  intro P z hr
  obtain ⟨U, s, g, w, m, ⟨⟨r1, r2⟩, L', r3⟩, c, v, a⟩ := z
  obtain ⟨sc, F, S, G, Y, M, ⟨t1, t2, t3, t4, L'', fp⟩, C, V, A⟩ := P
  obtain ⟨b, hb, h1, h2, h3, h4, h5, h6, h7, ⟨L, g1, g2, g3, g4⟩, h9⟩ := id hr
  have g2' : L'' = nI L := g2
  have g3' : L' = nI L := g3
  subst g2'
  subst g3'
  by_cases q : ¬ n < nI 1 ∧ n ≤ nI 8
  · have hn : ∃ k : Nat, 1 ≤ k ∧ k ≤ 8 ∧ n = nI k := by
      rcases pk_ix n (n := 9) (by omega) with z | z | ⟨k, hk, rfl⟩
      · exfalso
        apply q.1
        rw [Int32.lt_iff_toInt_lt] at z ⊢
        rw [nI_toInt (by omega)]
        have e0 : (0 : Int32).toInt = 0 := by decide
        omega
      · exfalso
        have q4 := q.2
        rw [Int32.le_iff_toInt_le, nI_toInt (by omega)] at z q4
        omega
      · refine ⟨k, ?_, by omega, rfl⟩
        rcases Nat.lt_or_ge k 1 with z | z
        · exact absurd (nI_lt z (by omega)) q.1
        · exact z
    obtain ⟨k, k1, k2, rfl⟩ := hn
    by_cases q2 : L + k ≤ 300
    · refine ⟨_, (sc, F, S, G, Y, M, (t1, _, t3, t4, nI (L + k), fp), C, V, A), ((nI 0, U.2), s, g, w, m, ((_, r2), nI (L + k), r3), c, v, a), c_feed_ok k1 k2 q2, m_feed_ok k1 k2 q2, ⟨b, hb, h1, h2, h3, h4, h5, h6, h7, ⟨L + k, q2, rfl, rfl, fun i hi => ?_⟩, h9⟩⟩
      show ∃ q, q < 256 ∧ fdL r1 L (fun q => (shf x k q &&& 255).toInt32) k i = nI q ∧ fdL t2 L (fun q => (shf x k q).toInt32.toInt8.toInt32) k i = _
      by_cases q3 : i < L
      · rw [fdL_out q3, fdL_out q3]
        exact g4 i q3
      · obtain ⟨j, rfl⟩ : ∃ j, i = L + j := ⟨i - L, by omega⟩
        rw [fdL_in (by omega), fdL_in (by omega)]
        exact byte_ok _
    · exact ⟨_, (sc, F, S, G, Y, M, (t1, t2, t3, t4, nI L, fp), C, V, A), ((nI 0, U.2), s, g, w, m, ((r1, r2), nI L, r3), c, v, a), c_feed_full k1 k2 q2 g1, m_feed_full k1 k2 q2 g1, hr.thrown⟩
  · refine ⟨BD, (sc, F, S, G, Y, M, (t1, t2, t3, t4, nI L, fp), C, V, A), ((nI 0, U.2), s, g, w, m, ((r1, r2), nI L, r3), c, v, a), c_feed_bad q, m_feed_bad (fun z => q ⟨z.1, ?_⟩), hr.thrown⟩
    have z3 := z.2
    rw [Int32.lt_iff_toInt_lt] at z3
    rw [Int32.le_iff_toInt_le]
    omega
end FDS
