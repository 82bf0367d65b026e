/-! the law's calls -/
section LW
variable {L k : Nat} {xs : Nat → Int32} {Q : Option Value → mj_H → Prop}
theorem lw_ix (hL : L ≤ 3072) (hk : 6 * k + 6 ≤ L) {j : Nat} (hj : j < 6) : vp_in (nI (6 * k) + nI j) L := by
  rw [nI_add]
  exact nI_ix (by omega) (by omega)
set_option maxRecDepth 20000 in
theorem lw_0 (hL : L ≤ 3072) (hk : 6 * k + 6 ≤ L) (P : fP) (z : fZ) (hp : P.1 = .inl (9, L, .inl xs)) (hr : Rel P z) (ih : ∀ (P : fP) (z : fZ), P.1 = .inl (9, L, .inl xs) → Rel P z → mj_R (mj_C 40) 10 false (some .boolean) iL_law (18, [some (.ref 0), some (.ref 1), some (.ref 35), some (.int (nI (6 * k) + nI 6))], [], fbP P (mdz z)) Q) : mj_R (mj_C 40) 10 false (some .boolean) iL_law (188, [some (.ref 0), some (.ref 1), some (.ref 35), some (.int (nI (6 * k)))], [], fbP P (mdz z)) Q := by
  obtain ⟨r, P', z', kc, km, hr'⟩ := s_sheet (d := 37) (xs (nI (6 * k) + nI 1).toNatClampNeg) (xs (nI (6 * k) + nI 2).toNatClampNeg) (xs (nI (6 * k) + nI 3).toNatClampNeg) P z hr
  have h0 : mj_nth (fbP P (mdz z)) 0 = some (.inl (9, L, .inl xs)) := by rw [← hp]; rfl
  have h1 := mj_C_keep L xs _ _ _ _ _ _ kc h0
  have hp' : P'.1 = .inl (9, L, .inl xs) := Option.some.inj h1
  obtain ⟨sc, F, S, G, Y, M, T, C, V, A⟩ := P
  have hsc : sc = .inl (9, L, .inl xs) := hp
  subst hsc
  obtain ⟨sc', F', S', G', Y', M', T', C', V', A'⟩ := P'
  have hsc' : sc' = .inl (9, L, .inl xs) := hp'
  subst hsc'
  refine mj_b1 40 rfl (⟨⟨lw_ix (j := 1) hL hk (by decide), lw_ix (j := 2) hL hk (by decide)⟩, lw_ix (j := 3) hL hk (by decide)⟩) ?_
  refine mj_cV rfl rfl rfl rfl rfl rfl (kc) ?_
  refine mj_b1 40 rfl (⟨⟨lw_ix (j := 1) hL hk (by decide), lw_ix (j := 2) hL hk (by decide)⟩, lw_ix (j := 3) hL hk (by decide)⟩) ?_
  refine mj_cV rfl rfl rfl rfl rfl rfl (km) ?_
  refine mj_b0 40 rfl ?_
  refine mj_brt (show r = r from rfl) ?_
  refine mj_b0 2 rfl ?_
  exact ih _ _ rfl hr'
set_option maxRecDepth 20000 in
theorem lw_1 (hL : L ≤ 3072) (hk : 6 * k + 6 ≤ L) (P : fP) (z : fZ) (hp : P.1 = .inl (9, L, .inl xs)) (hr : Rel P z) (ih : ∀ (P : fP) (z : fZ), P.1 = .inl (9, L, .inl xs) → Rel P z → mj_R (mj_C 40) 10 false (some .boolean) iL_law (18, [some (.ref 0), some (.ref 1), some (.ref 35), some (.int (nI (6 * k) + nI 6))], [], fbP P (mdz z)) Q) : mj_R (mj_C 40) 10 false (some .boolean) iL_law (231, [some (.ref 0), some (.ref 1), some (.ref 35), some (.int (nI (6 * k)))], [], fbP P (mdz z)) Q := by
  obtain ⟨r, P', z', kc, km, hr'⟩ := s_set (d := 37) (xs (nI (6 * k) + nI 1).toNatClampNeg) (xs (nI (6 * k) + nI 2).toNatClampNeg) (xs (nI (6 * k) + nI 3).toNatClampNeg) P z hr
  have h0 : mj_nth (fbP P (mdz z)) 0 = some (.inl (9, L, .inl xs)) := by rw [← hp]; rfl
  have h1 := mj_C_keep L xs _ _ _ _ _ _ kc h0
  have hp' : P'.1 = .inl (9, L, .inl xs) := Option.some.inj h1
  obtain ⟨sc, F, S, G, Y, M, T, C, V, A⟩ := P
  have hsc : sc = .inl (9, L, .inl xs) := hp
  subst hsc
  obtain ⟨sc', F', S', G', Y', M', T', C', V', A'⟩ := P'
  have hsc' : sc' = .inl (9, L, .inl xs) := hp'
  subst hsc'
  refine mj_b1 40 rfl (⟨⟨lw_ix (j := 1) hL hk (by decide), lw_ix (j := 2) hL hk (by decide)⟩, lw_ix (j := 3) hL hk (by decide)⟩) ?_
  refine mj_cV rfl rfl rfl rfl rfl rfl (kc) ?_
  refine mj_b1 40 rfl (⟨⟨lw_ix (j := 1) hL hk (by decide), lw_ix (j := 2) hL hk (by decide)⟩, lw_ix (j := 3) hL hk (by decide)⟩) ?_
  refine mj_cV rfl rfl rfl rfl rfl rfl (km) ?_
  refine mj_b0 40 rfl ?_
  refine mj_brt (show r = r from rfl) ?_
  refine mj_b0 2 rfl ?_
  exact ih _ _ rfl hr'
set_option maxRecDepth 20000 in
theorem lw_2 (hL : L ≤ 3072) (hk : 6 * k + 6 ≤ L) (P : fP) (z : fZ) (hp : P.1 = .inl (9, L, .inl xs)) (hr : Rel P z) (ih : ∀ (P : fP) (z : fZ), P.1 = .inl (9, L, .inl xs) → Rel P z → mj_R (mj_C 40) 10 false (some .boolean) iL_law (18, [some (.ref 0), some (.ref 1), some (.ref 35), some (.int (nI (6 * k) + nI 6))], [], fbP P (mdz z)) Q) : mj_R (mj_C 40) 10 false (some .boolean) iL_law (274, [some (.ref 0), some (.ref 1), some (.ref 35), some (.int (nI (6 * k)))], [], fbP P (mdz z)) Q := by
  obtain ⟨r, P', z', kc, km, hr'⟩ := s_copy (d := 37) (xs (nI (6 * k) + nI 1).toNatClampNeg) (xs (nI (6 * k) + nI 2).toNatClampNeg) (xs (nI (6 * k) + nI 3).toNatClampNeg) (xs (nI (6 * k) + nI 4).toNatClampNeg) (xs (nI (6 * k) + nI 5).toNatClampNeg) P z hr
  have h0 : mj_nth (fbP P (mdz z)) 0 = some (.inl (9, L, .inl xs)) := by rw [← hp]; rfl
  have h1 := mj_C_keep L xs _ _ _ _ _ _ kc h0
  have hp' : P'.1 = .inl (9, L, .inl xs) := Option.some.inj h1
  obtain ⟨sc, F, S, G, Y, M, T, C, V, A⟩ := P
  have hsc : sc = .inl (9, L, .inl xs) := hp
  subst hsc
  obtain ⟨sc', F', S', G', Y', M', T', C', V', A'⟩ := P'
  have hsc' : sc' = .inl (9, L, .inl xs) := hp'
  subst hsc'
  refine mj_b1 40 rfl (⟨⟨⟨⟨lw_ix (j := 1) hL hk (by decide), lw_ix (j := 2) hL hk (by decide)⟩, lw_ix (j := 3) hL hk (by decide)⟩, lw_ix (j := 4) hL hk (by decide)⟩, lw_ix (j := 5) hL hk (by decide)⟩) ?_
  refine mj_cV rfl rfl rfl rfl rfl rfl (kc) ?_
  refine mj_b1 40 rfl (⟨⟨⟨⟨lw_ix (j := 1) hL hk (by decide), lw_ix (j := 2) hL hk (by decide)⟩, lw_ix (j := 3) hL hk (by decide)⟩, lw_ix (j := 4) hL hk (by decide)⟩, lw_ix (j := 5) hL hk (by decide)⟩) ?_
  refine mj_cV rfl rfl rfl rfl rfl rfl (km) ?_
  refine mj_b0 40 rfl ?_
  refine mj_brt (show r = r from rfl) ?_
  refine mj_b0 2 rfl ?_
  exact ih _ _ rfl hr'
set_option maxRecDepth 20000 in
theorem lw_3 (hL : L ≤ 3072) (hk : 6 * k + 6 ≤ L) (P : fP) (z : fZ) (hp : P.1 = .inl (9, L, .inl xs)) (hr : Rel P z) (ih : ∀ (P : fP) (z : fZ), P.1 = .inl (9, L, .inl xs) → Rel P z → mj_R (mj_C 40) 10 false (some .boolean) iL_law (18, [some (.ref 0), some (.ref 1), some (.ref 35), some (.int (nI (6 * k) + nI 6))], [], fbP P (mdz z)) Q) : mj_R (mj_C 40) 10 false (some .boolean) iL_law (337, [some (.ref 0), some (.ref 1), some (.ref 35), some (.int (nI (6 * k)))], [], fbP P (mdz z)) Q := by
  obtain ⟨r, P', z', kc, km, hr'⟩ := s_drop (d := 37) (xs (nI (6 * k) + nI 1).toNatClampNeg) P z hr
  have h0 : mj_nth (fbP P (mdz z)) 0 = some (.inl (9, L, .inl xs)) := by rw [← hp]; rfl
  have h1 := mj_C_keep L xs _ _ _ _ _ _ kc h0
  have hp' : P'.1 = .inl (9, L, .inl xs) := Option.some.inj h1
  obtain ⟨sc, F, S, G, Y, M, T, C, V, A⟩ := P
  have hsc : sc = .inl (9, L, .inl xs) := hp
  subst hsc
  obtain ⟨sc', F', S', G', Y', M', T', C', V', A'⟩ := P'
  have hsc' : sc' = .inl (9, L, .inl xs) := hp'
  subst hsc'
  refine mj_b1 40 rfl (lw_ix (j := 1) hL hk (by decide)) ?_
  refine mj_cV rfl rfl rfl rfl rfl rfl (kc) ?_
  refine mj_b1 40 rfl (lw_ix (j := 1) hL hk (by decide)) ?_
  refine mj_cV rfl rfl rfl rfl rfl rfl (km) ?_
  refine mj_b0 40 rfl ?_
  refine mj_brt (show r = r from rfl) ?_
  refine mj_b0 2 rfl ?_
  exact ih _ _ rfl hr'
set_option maxRecDepth 20000 in
theorem lw_4 (hL : L ≤ 3072) (hk : 6 * k + 6 ≤ L) (P : fP) (z : fZ) (hp : P.1 = .inl (9, L, .inl xs)) (hr : Rel P z) (ih : ∀ (P : fP) (z : fZ), P.1 = .inl (9, L, .inl xs) → Rel P z → mj_R (mj_C 40) 10 false (some .boolean) iL_law (18, [some (.ref 0), some (.ref 1), some (.ref 35), some (.int (nI (6 * k) + nI 6))], [], fbP P (mdz z)) Q) : mj_R (mj_C 40) 10 false (some .boolean) iL_law (360, [some (.ref 0), some (.ref 1), some (.ref 35), some (.int (nI (6 * k)))], [], fbP P (mdz z)) Q := by
  obtain ⟨r, P', z', kc, km, hr'⟩ := s_board (d := 33) (xs (nI (6 * k) + nI 1).toNatClampNeg) (xs (nI (6 * k) + nI 2).toNatClampNeg) P z hr
  have h0 : mj_nth (fbP P (mdz z)) 0 = some (.inl (9, L, .inl xs)) := by rw [← hp]; rfl
  have h1 := mj_C_keep L xs _ _ _ _ _ _ kc h0
  have hp' : P'.1 = .inl (9, L, .inl xs) := Option.some.inj h1
  obtain ⟨sc, F, S, G, Y, M, T, C, V, A⟩ := P
  have hsc : sc = .inl (9, L, .inl xs) := hp
  subst hsc
  obtain ⟨sc', F', S', G', Y', M', T', C', V', A'⟩ := P'
  have hsc' : sc' = .inl (9, L, .inl xs) := hp'
  subst hsc'
  refine mj_b1 40 rfl (⟨lw_ix (j := 1) hL hk (by decide), lw_ix (j := 2) hL hk (by decide)⟩) ?_
  refine mj_cV rfl rfl rfl rfl rfl rfl (kc) ?_
  refine mj_b1 40 rfl (⟨lw_ix (j := 1) hL hk (by decide), lw_ix (j := 2) hL hk (by decide)⟩) ?_
  refine mj_cV rfl rfl rfl rfl rfl rfl (km) ?_
  refine mj_b0 40 rfl ?_
  refine mj_brt (show r = r from rfl) ?_
  refine mj_b0 2 rfl ?_
  exact ih _ _ rfl hr'
set_option maxRecDepth 20000 in
theorem lw_5 (hL : L ≤ 3072) (hk : 6 * k + 6 ≤ L) (P : fP) (z : fZ) (hp : P.1 = .inl (9, L, .inl xs)) (hr : Rel P z) (ih : ∀ (P : fP) (z : fZ), P.1 = .inl (9, L, .inl xs) → Rel P z → mj_R (mj_C 40) 10 false (some .boolean) iL_law (18, [some (.ref 0), some (.ref 1), some (.ref 35), some (.int (nI (6 * k) + nI 6))], [], fbP P (mdz z)) Q) : mj_R (mj_C 40) 10 false (some .boolean) iL_law (393, [some (.ref 0), some (.ref 1), some (.ref 35), some (.int (nI (6 * k)))], [], fbP P (mdz z)) Q := by
  obtain ⟨r, P', z', kc, km, hr'⟩ := s_cell (d := 37) (xs (nI (6 * k) + nI 1).toNatClampNeg) (xs (nI (6 * k) + nI 2).toNatClampNeg) P z hr
  have h0 : mj_nth (fbP P (mdz z)) 0 = some (.inl (9, L, .inl xs)) := by rw [← hp]; rfl
  have h1 := mj_C_keep L xs _ _ _ _ _ _ kc h0
  have hp' : P'.1 = .inl (9, L, .inl xs) := Option.some.inj h1
  obtain ⟨sc, F, S, G, Y, M, T, C, V, A⟩ := P
  have hsc : sc = .inl (9, L, .inl xs) := hp
  subst hsc
  obtain ⟨sc', F', S', G', Y', M', T', C', V', A'⟩ := P'
  have hsc' : sc' = .inl (9, L, .inl xs) := hp'
  subst hsc'
  refine mj_b1 40 rfl (⟨lw_ix (j := 1) hL hk (by decide), lw_ix (j := 2) hL hk (by decide)⟩) ?_
  refine mj_cV rfl rfl rfl rfl rfl rfl (kc) ?_
  refine mj_b1 40 rfl (⟨lw_ix (j := 1) hL hk (by decide), lw_ix (j := 2) hL hk (by decide)⟩) ?_
  refine mj_cV rfl rfl rfl rfl rfl rfl (km) ?_
  refine mj_b0 40 rfl ?_
  refine mj_brt (show r = r from rfl) ?_
  refine mj_b0 2 rfl ?_
  exact ih _ _ rfl hr'
set_option maxRecDepth 20000 in
theorem lw_6 (hL : L ≤ 3072) (hk : 6 * k + 6 ≤ L) (P : fP) (z : fZ) (hp : P.1 = .inl (9, L, .inl xs)) (hr : Rel P z) (ih : ∀ (P : fP) (z : fZ), P.1 = .inl (9, L, .inl xs) → Rel P z → mj_R (mj_C 40) 10 false (some .boolean) iL_law (18, [some (.ref 0), some (.ref 1), some (.ref 35), some (.int (nI (6 * k) + nI 6))], [], fbP P (mdz z)) Q) : mj_R (mj_C 40) 10 false (some .boolean) iL_law (426, [some (.ref 0), some (.ref 1), some (.ref 35), some (.int (nI (6 * k)))], [], fbP P (mdz z)) Q := by
  obtain ⟨r, P', z', kc, km, hr'⟩ := s_side (d := 37) (xs (nI (6 * k) + nI 1).toNatClampNeg) (xs (nI (6 * k) + nI 2).toNatClampNeg) P z hr
  have h0 : mj_nth (fbP P (mdz z)) 0 = some (.inl (9, L, .inl xs)) := by rw [← hp]; rfl
  have h1 := mj_C_keep L xs _ _ _ _ _ _ kc h0
  have hp' : P'.1 = .inl (9, L, .inl xs) := Option.some.inj h1
  obtain ⟨sc, F, S, G, Y, M, T, C, V, A⟩ := P
  have hsc : sc = .inl (9, L, .inl xs) := hp
  subst hsc
  obtain ⟨sc', F', S', G', Y', M', T', C', V', A'⟩ := P'
  have hsc' : sc' = .inl (9, L, .inl xs) := hp'
  subst hsc'
  refine mj_b1 40 rfl (⟨lw_ix (j := 1) hL hk (by decide), lw_ix (j := 2) hL hk (by decide)⟩) ?_
  refine mj_cV rfl rfl rfl rfl rfl rfl (kc) ?_
  refine mj_b1 40 rfl (⟨lw_ix (j := 1) hL hk (by decide), lw_ix (j := 2) hL hk (by decide)⟩) ?_
  refine mj_cV rfl rfl rfl rfl rfl rfl (km) ?_
  refine mj_b0 40 rfl ?_
  refine mj_brt (show r = r from rfl) ?_
  refine mj_b0 2 rfl ?_
  exact ih _ _ rfl hr'
set_option maxRecDepth 20000 in
theorem lw_7 (hL : L ≤ 3072) (hk : 6 * k + 6 ≤ L) (P : fP) (z : fZ) (hp : P.1 = .inl (9, L, .inl xs)) (hr : Rel P z) (ih : ∀ (P : fP) (z : fZ), P.1 = .inl (9, L, .inl xs) → Rel P z → mj_R (mj_C 40) 10 false (some .boolean) iL_law (18, [some (.ref 0), some (.ref 1), some (.ref 35), some (.int (nI (6 * k) + nI 6))], [], fbP P (mdz z)) Q) : mj_R (mj_C 40) 10 false (some .boolean) iL_law (459, [some (.ref 0), some (.ref 1), some (.ref 35), some (.int (nI (6 * k)))], [], fbP P (mdz z)) Q := by
  obtain ⟨r, P', z', kc, km, hr'⟩ := s_by (d := 37) (xs (nI (6 * k) + nI 1).toNatClampNeg) (xs (nI (6 * k) + nI 2).toNatClampNeg) P z hr
  have h0 : mj_nth (fbP P (mdz z)) 0 = some (.inl (9, L, .inl xs)) := by rw [← hp]; rfl
  have h1 := mj_C_keep L xs _ _ _ _ _ _ kc h0
  have hp' : P'.1 = .inl (9, L, .inl xs) := Option.some.inj h1
  obtain ⟨sc, F, S, G, Y, M, T, C, V, A⟩ := P
  have hsc : sc = .inl (9, L, .inl xs) := hp
  subst hsc
  obtain ⟨sc', F', S', G', Y', M', T', C', V', A'⟩ := P'
  have hsc' : sc' = .inl (9, L, .inl xs) := hp'
  subst hsc'
  refine mj_b1 40 rfl (⟨lw_ix (j := 1) hL hk (by decide), lw_ix (j := 2) hL hk (by decide)⟩) ?_
  refine mj_cV rfl rfl rfl rfl rfl rfl (kc) ?_
  refine mj_b1 40 rfl (⟨lw_ix (j := 1) hL hk (by decide), lw_ix (j := 2) hL hk (by decide)⟩) ?_
  refine mj_cV rfl rfl rfl rfl rfl rfl (km) ?_
  refine mj_b0 40 rfl ?_
  refine mj_brt (show r = r from rfl) ?_
  refine mj_b0 2 rfl ?_
  exact ih _ _ rfl hr'
set_option maxRecDepth 20000 in
theorem lw_8 (hL : L ≤ 3072) (hk : 6 * k + 6 ≤ L) (P : fP) (z : fZ) (hp : P.1 = .inl (9, L, .inl xs)) (hr : Rel P z) (ih : ∀ (P : fP) (z : fZ), P.1 = .inl (9, L, .inl xs) → Rel P z → mj_R (mj_C 40) 10 false (some .boolean) iL_law (18, [some (.ref 0), some (.ref 1), some (.ref 35), some (.int (nI (6 * k) + nI 6))], [], fbP P (mdz z)) Q) : mj_R (mj_C 40) 10 false (some .boolean) iL_law (492, [some (.ref 0), some (.ref 1), some (.ref 35), some (.int (nI (6 * k)))], [], fbP P (mdz z)) Q := by
  obtain ⟨r, P', z', kc, km, hr'⟩ := s_grown (d := 38) (xs (nI (6 * k) + nI 1).toNatClampNeg) (xs (nI (6 * k) + nI 2).toNatClampNeg) (xs (nI (6 * k) + nI 3).toNatClampNeg) P z hr
  have h0 : mj_nth (fbP P (mdz z)) 0 = some (.inl (9, L, .inl xs)) := by rw [← hp]; rfl
  have h1 := mj_C_keep L xs _ _ _ _ _ _ kc h0
  have hp' : P'.1 = .inl (9, L, .inl xs) := Option.some.inj h1
  obtain ⟨sc, F, S, G, Y, M, T, C, V, A⟩ := P
  have hsc : sc = .inl (9, L, .inl xs) := hp
  subst hsc
  obtain ⟨sc', F', S', G', Y', M', T', C', V', A'⟩ := P'
  have hsc' : sc' = .inl (9, L, .inl xs) := hp'
  subst hsc'
  refine mj_b1 40 rfl (⟨⟨lw_ix (j := 1) hL hk (by decide), lw_ix (j := 2) hL hk (by decide)⟩, lw_ix (j := 3) hL hk (by decide)⟩) ?_
  refine mj_cV rfl rfl rfl rfl rfl rfl (kc) ?_
  refine mj_b1 40 rfl (⟨⟨lw_ix (j := 1) hL hk (by decide), lw_ix (j := 2) hL hk (by decide)⟩, lw_ix (j := 3) hL hk (by decide)⟩) ?_
  refine mj_cV rfl rfl rfl rfl rfl rfl (km) ?_
  refine mj_b0 40 rfl ?_
  refine mj_brt (show r = r from rfl) ?_
  refine mj_b0 2 rfl ?_
  exact ih _ _ rfl hr'
set_option maxRecDepth 20000 in
theorem lw_9 (hL : L ≤ 3072) (hk : 6 * k + 6 ≤ L) (P : fP) (z : fZ) (hp : P.1 = .inl (9, L, .inl xs)) (hr : Rel P z) (ih : ∀ (P : fP) (z : fZ), P.1 = .inl (9, L, .inl xs) → Rel P z → mj_R (mj_C 40) 10 false (some .boolean) iL_law (18, [some (.ref 0), some (.ref 1), some (.ref 35), some (.int (nI (6 * k) + nI 6))], [], fbP P (mdz z)) Q) : mj_R (mj_C 40) 10 false (some .boolean) iL_law (535, [some (.ref 0), some (.ref 1), some (.ref 35), some (.int (nI (6 * k)))], [], fbP P (mdz z)) Q := by
  obtain ⟨r, P', z', kc, km, hr'⟩ := s_far (d := 36) (xs (nI (6 * k) + nI 1).toNatClampNeg) (xs (nI (6 * k) + nI 2).toNatClampNeg) (xs (nI (6 * k) + nI 3).toNatClampNeg) P z hr
  have h0 : mj_nth (fbP P (mdz z)) 0 = some (.inl (9, L, .inl xs)) := by rw [← hp]; rfl
  have h1 := mj_C_keep L xs _ _ _ _ _ _ kc h0
  have hp' : P'.1 = .inl (9, L, .inl xs) := Option.some.inj h1
  obtain ⟨sc, F, S, G, Y, M, T, C, V, A⟩ := P
  have hsc : sc = .inl (9, L, .inl xs) := hp
  subst hsc
  obtain ⟨sc', F', S', G', Y', M', T', C', V', A'⟩ := P'
  have hsc' : sc' = .inl (9, L, .inl xs) := hp'
  subst hsc'
  refine mj_b1 40 rfl (⟨⟨lw_ix (j := 1) hL hk (by decide), lw_ix (j := 2) hL hk (by decide)⟩, lw_ix (j := 3) hL hk (by decide)⟩) ?_
  refine mj_cV rfl rfl rfl rfl rfl rfl (kc) ?_
  refine mj_b1 40 rfl (⟨⟨lw_ix (j := 1) hL hk (by decide), lw_ix (j := 2) hL hk (by decide)⟩, lw_ix (j := 3) hL hk (by decide)⟩) ?_
  refine mj_cV rfl rfl rfl rfl rfl rfl (km) ?_
  refine mj_b0 40 rfl ?_
  refine mj_brt (show r = r from rfl) ?_
  refine mj_b0 2 rfl ?_
  exact ih _ _ rfl hr'
set_option maxRecDepth 20000 in
theorem lw_10 (hL : L ≤ 3072) (hk : 6 * k + 6 ≤ L) (P : fP) (z : fZ) (hp : P.1 = .inl (9, L, .inl xs)) (hr : Rel P z) (ih : ∀ (P : fP) (z : fZ), P.1 = .inl (9, L, .inl xs) → Rel P z → mj_R (mj_C 40) 10 false (some .boolean) iL_law (18, [some (.ref 0), some (.ref 1), some (.ref 35), some (.int (nI (6 * k) + nI 6))], [], fbP P (mdz z)) Q) : mj_R (mj_C 40) 10 false (some .boolean) iL_law (578, [some (.ref 0), some (.ref 1), some (.ref 35), some (.int (nI (6 * k)))], [], fbP P (mdz z)) Q := by
  obtain ⟨r, P', z', kc, km, hr'⟩ := s_way (d := 35) (xs (nI (6 * k) + nI 1).toNatClampNeg) (xs (nI (6 * k) + nI 2).toNatClampNeg) (xs (nI (6 * k) + nI 3).toNatClampNeg) P z hr
  have h0 : mj_nth (fbP P (mdz z)) 0 = some (.inl (9, L, .inl xs)) := by rw [← hp]; rfl
  have h1 := mj_C_keep L xs _ _ _ _ _ _ kc h0
  have hp' : P'.1 = .inl (9, L, .inl xs) := Option.some.inj h1
  obtain ⟨sc, F, S, G, Y, M, T, C, V, A⟩ := P
  have hsc : sc = .inl (9, L, .inl xs) := hp
  subst hsc
  obtain ⟨sc', F', S', G', Y', M', T', C', V', A'⟩ := P'
  have hsc' : sc' = .inl (9, L, .inl xs) := hp'
  subst hsc'
  refine mj_b1 40 rfl (⟨⟨lw_ix (j := 1) hL hk (by decide), lw_ix (j := 2) hL hk (by decide)⟩, lw_ix (j := 3) hL hk (by decide)⟩) ?_
  refine mj_cV rfl rfl rfl rfl rfl rfl (kc) ?_
  refine mj_b1 40 rfl (⟨⟨lw_ix (j := 1) hL hk (by decide), lw_ix (j := 2) hL hk (by decide)⟩, lw_ix (j := 3) hL hk (by decide)⟩) ?_
  refine mj_cV rfl rfl rfl rfl rfl rfl (km) ?_
  refine mj_b0 40 rfl ?_
  refine mj_brt (show r = r from rfl) ?_
  refine mj_b0 2 rfl ?_
  exact ih _ _ rfl hr'
set_option maxRecDepth 20000 in
theorem lw_11 (hL : L ≤ 3072) (hk : 6 * k + 6 ≤ L) (P : fP) (z : fZ) (hp : P.1 = .inl (9, L, .inl xs)) (hr : Rel P z) (ih : ∀ (P : fP) (z : fZ), P.1 = .inl (9, L, .inl xs) → Rel P z → mj_R (mj_C 40) 10 false (some .boolean) iL_law (18, [some (.ref 0), some (.ref 1), some (.ref 35), some (.int (nI (6 * k) + nI 6))], [], fbP P (mdz z)) Q) : mj_R (mj_C 40) 10 false (some .boolean) iL_law (621, [some (.ref 0), some (.ref 1), some (.ref 35), some (.int (nI (6 * k)))], [], fbP P (mdz z)) Q := by
  obtain ⟨r, P', z', kc, km, hr'⟩ := s_walks (d := 36) (xs (nI (6 * k) + nI 1).toNatClampNeg) (xs (nI (6 * k) + nI 2).toNatClampNeg) (xs (nI (6 * k) + nI 3).toNatClampNeg) P z hr
  have h0 : mj_nth (fbP P (mdz z)) 0 = some (.inl (9, L, .inl xs)) := by rw [← hp]; rfl
  have h1 := mj_C_keep L xs _ _ _ _ _ _ kc h0
  have hp' : P'.1 = .inl (9, L, .inl xs) := Option.some.inj h1
  obtain ⟨sc, F, S, G, Y, M, T, C, V, A⟩ := P
  have hsc : sc = .inl (9, L, .inl xs) := hp
  subst hsc
  obtain ⟨sc', F', S', G', Y', M', T', C', V', A'⟩ := P'
  have hsc' : sc' = .inl (9, L, .inl xs) := hp'
  subst hsc'
  refine mj_b1 40 rfl (⟨⟨lw_ix (j := 1) hL hk (by decide), lw_ix (j := 2) hL hk (by decide)⟩, lw_ix (j := 3) hL hk (by decide)⟩) ?_
  refine mj_cV rfl rfl rfl rfl rfl rfl (kc) ?_
  refine mj_b1 40 rfl (⟨⟨lw_ix (j := 1) hL hk (by decide), lw_ix (j := 2) hL hk (by decide)⟩, lw_ix (j := 3) hL hk (by decide)⟩) ?_
  refine mj_cV rfl rfl rfl rfl rfl rfl (km) ?_
  refine mj_b0 40 rfl ?_
  refine mj_brt (show r = r from rfl) ?_
  refine mj_b0 2 rfl ?_
  exact ih _ _ rfl hr'
end LW
