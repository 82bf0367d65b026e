section LW
variable {L k : Nat} {xs : Nat → Int32} {Q : Option Value → mj_H → Prop}
set_option maxRecDepth 20000 in
theorem lw_12 (hL : L ≤ 3072) (hk : 6 * k + 6 ≤ L) (P : fP) (z : fZ) (hp : P.1 = .inl (9, L, .inl xs)) (hr : Rel P z) (ih : ∀ (P : fP) (z : fZ), P.1 = .inl (9, L, .inl xs) → Rel P z → mj_R (mj_C 40) 10 false (some .boolean) iL_law (18, [some (.ref 0), some (.ref 1), some (.ref 35), some (.int (nI (6 * k) + nI 6))], [], fbP P (mdz z)) Q) : mj_R (mj_C 40) 10 false (some .boolean) iL_law (664, [some (.ref 0), some (.ref 1), some (.ref 35), some (.int (nI (6 * k)))], [], fbP P (mdz z)) Q := by
  obtain ⟨r, P', z', kc, km, hr'⟩ := s_around (d := 35) (xs (nI (6 * k) + nI 1).toNatClampNeg) (xs (nI (6 * k) + nI 2).toNatClampNeg) P z hr
  have h0 : mj_nth (fbP P (mdz z)) 0 = some (.inl (9, L, .inl xs)) := by rw [← hp]; rfl
  have h1 := mj_C_keep L xs _ _ _ _ _ _ kc h0
  have hp' : P'.1 = .inl (9, L, .inl xs) := Option.some.inj h1
  obtain ⟨sc, F, S, G, Y, M, T, C, V, A⟩ := P
  have hsc : sc = .inl (9, L, .inl xs) := hp
  subst hsc
  obtain ⟨sc', F', S', G', Y', M', T', C', V', A'⟩ := P'
  have hsc' : sc' = .inl (9, L, .inl xs) := hp'
  subst hsc'
  refine mj_b1 40 rfl (⟨lw_ix (j := 1) hL hk (by decide), lw_ix (j := 2) hL hk (by decide)⟩) ?_
  refine mj_cV rfl rfl rfl rfl rfl rfl (kc) ?_
  refine mj_b1 40 rfl (⟨lw_ix (j := 1) hL hk (by decide), lw_ix (j := 2) hL hk (by decide)⟩) ?_
  refine mj_cV rfl rfl rfl rfl rfl rfl (km) ?_
  refine mj_b0 40 rfl ?_
  refine mj_brt (show r = r from rfl) ?_
  refine mj_b0 2 rfl ?_
  exact ih _ _ rfl hr'
set_option maxRecDepth 20000 in
theorem lw_13 (hL : L ≤ 3072) (hk : 6 * k + 6 ≤ L) (P : fP) (z : fZ) (hp : P.1 = .inl (9, L, .inl xs)) (hr : Rel P z) (ih : ∀ (P : fP) (z : fZ), P.1 = .inl (9, L, .inl xs) → Rel P z → mj_R (mj_C 40) 10 false (some .boolean) iL_law (18, [some (.ref 0), some (.ref 1), some (.ref 35), some (.int (nI (6 * k) + nI 6))], [], fbP P (mdz z)) Q) : mj_R (mj_C 40) 10 false (some .boolean) iL_law (697, [some (.ref 0), some (.ref 1), some (.ref 35), some (.int (nI (6 * k)))], [], fbP P (mdz z)) Q := by
  obtain ⟨r, P', z', kc, km, hr'⟩ := s_put (d := 37) (xs (nI (6 * k) + nI 1).toNatClampNeg) (xs (nI (6 * k) + nI 2).toNatClampNeg) P z hr
  have h0 : mj_nth (fbP P (mdz z)) 0 = some (.inl (9, L, .inl xs)) := by rw [← hp]; rfl
  have h1 := mj_C_keep L xs _ _ _ _ _ _ kc h0
  have hp' : P'.1 = .inl (9, L, .inl xs) := Option.some.inj h1
  obtain ⟨sc, F, S, G, Y, M, T, C, V, A⟩ := P
  have hsc : sc = .inl (9, L, .inl xs) := hp
  subst hsc
  obtain ⟨sc', F', S', G', Y', M', T', C', V', A'⟩ := P'
  have hsc' : sc' = .inl (9, L, .inl xs) := hp'
  subst hsc'
  refine mj_b1 40 rfl (⟨lw_ix (j := 1) hL hk (by decide), lw_ix (j := 2) hL hk (by decide)⟩) ?_
  refine mj_cV rfl rfl rfl rfl rfl rfl (kc) ?_
  refine mj_b1 40 rfl (⟨lw_ix (j := 1) hL hk (by decide), lw_ix (j := 2) hL hk (by decide)⟩) ?_
  refine mj_cV rfl rfl rfl rfl rfl rfl (km) ?_
  refine mj_b0 40 rfl ?_
  refine mj_brt (show r = r from rfl) ?_
  refine mj_b0 2 rfl ?_
  exact ih _ _ rfl hr'
set_option maxRecDepth 20000 in
theorem lw_14 (hL : L ≤ 3072) (hk : 6 * k + 6 ≤ L) (P : fP) (z : fZ) (hp : P.1 = .inl (9, L, .inl xs)) (hr : Rel P z) (ih : ∀ (P : fP) (z : fZ), P.1 = .inl (9, L, .inl xs) → Rel P z → mj_R (mj_C 40) 10 false (some .boolean) iL_law (18, [some (.ref 0), some (.ref 1), some (.ref 35), some (.int (nI (6 * k) + nI 6))], [], fbP P (mdz z)) Q) : mj_R (mj_C 40) 10 false (some .boolean) iL_law (730, [some (.ref 0), some (.ref 1), some (.ref 35), some (.int (nI (6 * k)))], [], fbP P (mdz z)) Q := by
  obtain ⟨r, P', z', kc, km, hr'⟩ := s_mouse (d := 39) (xs (nI (6 * k) + nI 1).toNatClampNeg) P z hr
  have h0 : mj_nth (fbP P (mdz z)) 0 = some (.inl (9, L, .inl xs)) := by rw [← hp]; rfl
  have h1 := mj_C_keep L xs _ _ _ _ _ _ kc h0
  have hp' : P'.1 = .inl (9, L, .inl xs) := Option.some.inj h1
  obtain ⟨sc, F, S, G, Y, M, T, C, V, A⟩ := P
  have hsc : sc = .inl (9, L, .inl xs) := hp
  subst hsc
  obtain ⟨sc', F', S', G', Y', M', T', C', V', A'⟩ := P'
  have hsc' : sc' = .inl (9, L, .inl xs) := hp'
  subst hsc'
  refine mj_b1 40 rfl (lw_ix (j := 1) hL hk (by decide)) ?_
  refine mj_cV rfl rfl rfl rfl rfl rfl (kc) ?_
  refine mj_b1 40 rfl (lw_ix (j := 1) hL hk (by decide)) ?_
  refine mj_cV rfl rfl rfl rfl rfl rfl (km) ?_
  refine mj_b0 40 rfl ?_
  refine mj_brt (show r = r from rfl) ?_
  refine mj_b0 2 rfl ?_
  exact ih _ _ rfl hr'
set_option maxRecDepth 20000 in
theorem lw_15 (hL : L ≤ 3072) (hk : 6 * k + 6 ≤ L) (P : fP) (z : fZ) (hp : P.1 = .inl (9, L, .inl xs)) (hr : Rel P z) (ih : ∀ (P : fP) (z : fZ), P.1 = .inl (9, L, .inl xs) → Rel P z → mj_R (mj_C 40) 10 false (some .boolean) iL_law (18, [some (.ref 0), some (.ref 1), some (.ref 35), some (.int (nI (6 * k) + nI 6))], [], fbP P (mdz z)) Q) : mj_R (mj_C 40) 10 false (some .boolean) iL_law (753, [some (.ref 0), some (.ref 1), some (.ref 35), some (.int (nI (6 * k)))], [], fbP P (mdz z)) Q := by
  obtain ⟨r, P', z', kc, km, hr'⟩ := s_feed (d := 38) (f_lshl (xs (nI (6 * k) + nI 1).toNatClampNeg).toInt64 (nI 32) ||| ((xs (nI (6 * k) + nI 2).toNatClampNeg).toInt64 &&& 4294967295)) (xs (nI (6 * k) + nI 3).toNatClampNeg) P z hr
  have h0 : mj_nth (fbP P (mdz z)) 0 = some (.inl (9, L, .inl xs)) := by rw [← hp]; rfl
  have h1 := mj_C_keep L xs _ _ _ _ _ _ kc h0
  have hp' : P'.1 = .inl (9, L, .inl xs) := Option.some.inj h1
  obtain ⟨sc, F, S, G, Y, M, T, C, V, A⟩ := P
  have hsc : sc = .inl (9, L, .inl xs) := hp
  subst hsc
  obtain ⟨sc', F', S', G', Y', M', T', C', V', A'⟩ := P'
  have hsc' : sc' = .inl (9, L, .inl xs) := hp'
  subst hsc'
  refine mj_b1 40 rfl (⟨⟨lw_ix (j := 1) hL hk (by decide), lw_ix (j := 2) hL hk (by decide)⟩, lw_ix (j := 3) hL hk (by decide)⟩) ?_
  refine mj_cV rfl rfl rfl rfl rfl rfl (kc) ?_
  refine mj_b1 40 rfl (⟨⟨lw_ix (j := 1) hL hk (by decide), lw_ix (j := 2) hL hk (by decide)⟩, lw_ix (j := 3) hL hk (by decide)⟩) ?_
  refine mj_cV rfl rfl rfl rfl rfl rfl (km) ?_
  refine mj_b0 40 rfl ?_
  refine mj_brt (show r = r from rfl) ?_
  refine mj_b0 2 rfl ?_
  exact ih _ _ rfl hr'
set_option maxRecDepth 20000 in
theorem lw_16 (hL : L ≤ 3072) (hk : 6 * k + 6 ≤ L) (P : fP) (z : fZ) (hp : P.1 = .inl (9, L, .inl xs)) (hr : Rel P z) (ih : ∀ (P : fP) (z : fZ), P.1 = .inl (9, L, .inl xs) → Rel P z → mj_R (mj_C 40) 10 false (some .boolean) iL_law (18, [some (.ref 0), some (.ref 1), some (.ref 35), some (.int (nI (6 * k) + nI 6))], [], fbP P (mdz z)) Q) : mj_R (mj_C 40) 10 false (some .boolean) iL_law (816, [some (.ref 0), some (.ref 1), some (.ref 35), some (.int (nI (6 * k)))], [], fbP P (mdz z)) Q := by
  obtain ⟨r, P', z', kc, km, hr'⟩ := s_run (d := 34)  P z hr
  have h0 : mj_nth (fbP P (mdz z)) 0 = some (.inl (9, L, .inl xs)) := by rw [← hp]; rfl
  have h1 := mj_C_keep L xs _ _ _ _ _ _ kc h0
  have hp' : P'.1 = .inl (9, L, .inl xs) := Option.some.inj h1
  obtain ⟨sc, F, S, G, Y, M, T, C, V, A⟩ := P
  have hsc : sc = .inl (9, L, .inl xs) := hp
  subst hsc
  obtain ⟨sc', F', S', G', Y', M', T', C', V', A'⟩ := P'
  have hsc' : sc' = .inl (9, L, .inl xs) := hp'
  subst hsc'
  refine mj_b0 40 rfl ?_
  refine mj_cV rfl rfl rfl rfl rfl rfl (kc) ?_
  refine mj_b0 40 rfl ?_
  refine mj_cV rfl rfl rfl rfl rfl rfl (km) ?_
  refine mj_b0 40 rfl ?_
  refine mj_brt (show r = r from rfl) ?_
  refine mj_b0 2 rfl ?_
  exact ih _ _ rfl hr'
set_option maxRecDepth 20000 in
theorem lw_17 (hL : L ≤ 3072) (hk : 6 * k + 6 ≤ L) (P : fP) (z : fZ) (hp : P.1 = .inl (9, L, .inl xs)) (hr : Rel P z) (ih : ∀ (P : fP) (z : fZ), P.1 = .inl (9, L, .inl xs) → Rel P z → mj_R (mj_C 40) 10 false (some .boolean) iL_law (18, [some (.ref 0), some (.ref 1), some (.ref 35), some (.int (nI (6 * k) + nI 6))], [], fbP P (mdz z)) Q) : mj_R (mj_C 40) 10 false (some .boolean) iL_law (829, [some (.ref 0), some (.ref 1), some (.ref 35), some (.int (nI (6 * k)))], [], fbP P (mdz z)) Q := by
  obtain ⟨r, P', z', kc, km, hr'⟩ := s_fault (d := 39)  P z hr
  have h0 : mj_nth (fbP P (mdz z)) 0 = some (.inl (9, L, .inl xs)) := by rw [← hp]; rfl
  have h1 := mj_C_keep L xs _ _ _ _ _ _ kc h0
  have hp' : P'.1 = .inl (9, L, .inl xs) := Option.some.inj h1
  obtain ⟨sc, F, S, G, Y, M, T, C, V, A⟩ := P
  have hsc : sc = .inl (9, L, .inl xs) := hp
  subst hsc
  obtain ⟨sc', F', S', G', Y', M', T', C', V', A'⟩ := P'
  have hsc' : sc' = .inl (9, L, .inl xs) := hp'
  subst hsc'
  refine mj_b0 40 rfl ?_
  refine mj_cV rfl rfl rfl rfl rfl rfl (kc) ?_
  refine mj_b0 40 rfl ?_
  refine mj_cV rfl rfl rfl rfl rfl rfl (km) ?_
  refine mj_b0 40 rfl ?_
  refine mj_brt (show r = r from rfl) ?_
  refine mj_b0 2 rfl ?_
  exact ih _ _ rfl hr'
set_option maxRecDepth 20000 in
theorem lw_18 (hL : L ≤ 3072) (hk : 6 * k + 6 ≤ L) (P : fP) (z : fZ) (hp : P.1 = .inl (9, L, .inl xs)) (hr : Rel P z) (ih : ∀ (P : fP) (z : fZ), P.1 = .inl (9, L, .inl xs) → Rel P z → mj_R (mj_C 40) 10 false (some .boolean) iL_law (18, [some (.ref 0), some (.ref 1), some (.ref 35), some (.int (nI (6 * k) + nI 6))], [], fbP P (mdz z)) Q) : mj_R (mj_C 40) 10 false (some .boolean) iL_law (842, [some (.ref 0), some (.ref 1), some (.ref 35), some (.int (nI (6 * k)))], [], fbP P (mdz z)) Q := by
  obtain ⟨r, P', z', kc, km, hr'⟩ := s_paint (d := 37) (xs (nI (6 * k) + nI 1).toNatClampNeg) (xs (nI (6 * k) + nI 2).toNatClampNeg) P z hr
  have h0 : mj_nth (fbP P (mdz z)) 0 = some (.inl (9, L, .inl xs)) := by rw [← hp]; rfl
  have h1 := mj_C_keep L xs _ _ _ _ _ _ kc h0
  have hp' : P'.1 = .inl (9, L, .inl xs) := Option.some.inj h1
  obtain ⟨sc, F, S, G, Y, M, T, C, V, A⟩ := P
  have hsc : sc = .inl (9, L, .inl xs) := hp
  subst hsc
  obtain ⟨sc', F', S', G', Y', M', T', C', V', A'⟩ := P'
  have hsc' : sc' = .inl (9, L, .inl xs) := hp'
  subst hsc'
  refine mj_b1 40 rfl (⟨lw_ix (j := 1) hL hk (by decide), lw_ix (j := 2) hL hk (by decide)⟩) ?_
  refine mj_cV rfl rfl rfl rfl rfl rfl (kc) ?_
  refine mj_b1 40 rfl (⟨lw_ix (j := 1) hL hk (by decide), lw_ix (j := 2) hL hk (by decide)⟩) ?_
  refine mj_cV rfl rfl rfl rfl rfl rfl (km) ?_
  refine mj_b0 40 rfl ?_
  refine mj_brt (show r = r from rfl) ?_
  refine mj_b0 2 rfl ?_
  exact ih _ _ rfl hr'
set_option maxRecDepth 20000 in
theorem lw_19 (hL : L ≤ 3072) (hk : 6 * k + 6 ≤ L) (P : fP) (z : fZ) (hp : P.1 = .inl (9, L, .inl xs)) (hr : Rel P z) (ih : ∀ (P : fP) (z : fZ), P.1 = .inl (9, L, .inl xs) → Rel P z → mj_R (mj_C 40) 10 false (some .boolean) iL_law (18, [some (.ref 0), some (.ref 1), some (.ref 35), some (.int (nI (6 * k) + nI 6))], [], fbP P (mdz z)) Q) : mj_R (mj_C 40) 10 false (some .boolean) iL_law (875, [some (.ref 0), some (.ref 1), some (.ref 35), some (.int (nI (6 * k)))], [], fbP P (mdz z)) Q := by
  obtain ⟨r, P', z', kc, km, hr'⟩ := s_paints (d := 37) (xs (nI (6 * k) + nI 1).toNatClampNeg) (xs (nI (6 * k) + nI 2).toNatClampNeg) (xs (nI (6 * k) + nI 3).toNatClampNeg) (xs (nI (6 * k) + nI 4).toNatClampNeg) P z hr
  have h0 : mj_nth (fbP P (mdz z)) 0 = some (.inl (9, L, .inl xs)) := by rw [← hp]; rfl
  have h1 := mj_C_keep L xs _ _ _ _ _ _ kc h0
  have hp' : P'.1 = .inl (9, L, .inl xs) := Option.some.inj h1
  obtain ⟨sc, F, S, G, Y, M, T, C, V, A⟩ := P
  have hsc : sc = .inl (9, L, .inl xs) := hp
  subst hsc
  obtain ⟨sc', F', S', G', Y', M', T', C', V', A'⟩ := P'
  have hsc' : sc' = .inl (9, L, .inl xs) := hp'
  subst hsc'
  refine mj_b1 40 rfl (⟨⟨⟨lw_ix (j := 1) hL hk (by decide), lw_ix (j := 2) hL hk (by decide)⟩, lw_ix (j := 3) hL hk (by decide)⟩, lw_ix (j := 4) hL hk (by decide)⟩) ?_
  refine mj_cV rfl rfl rfl rfl rfl rfl (kc) ?_
  refine mj_b1 40 rfl (⟨⟨⟨lw_ix (j := 1) hL hk (by decide), lw_ix (j := 2) hL hk (by decide)⟩, lw_ix (j := 3) hL hk (by decide)⟩, lw_ix (j := 4) hL hk (by decide)⟩) ?_
  refine mj_cV rfl rfl rfl rfl rfl rfl (km) ?_
  refine mj_b0 40 rfl ?_
  refine mj_brt (show r = r from rfl) ?_
  refine mj_b0 2 rfl ?_
  exact ih _ _ rfl hr'
set_option maxRecDepth 20000 in
theorem lw_20 (hL : L ≤ 3072) (hk : 6 * k + 6 ≤ L) (P : fP) (z : fZ) (hp : P.1 = .inl (9, L, .inl xs)) (hr : Rel P z) (ih : ∀ (P : fP) (z : fZ), P.1 = .inl (9, L, .inl xs) → Rel P z → mj_R (mj_C 40) 10 false (some .boolean) iL_law (18, [some (.ref 0), some (.ref 1), some (.ref 35), some (.int (nI (6 * k) + nI 6))], [], fbP P (mdz z)) Q) : mj_R (mj_C 40) 10 false (some .boolean) iL_law (928, [some (.ref 0), some (.ref 1), some (.ref 35), some (.int (nI (6 * k)))], [], fbP P (mdz z)) Q := by
  obtain ⟨r, P', z', kc, km, hr'⟩ := s_clashes (d := 37)  P z hr
  have h0 : mj_nth (fbP P (mdz z)) 0 = some (.inl (9, L, .inl xs)) := by rw [← hp]; rfl
  have h1 := mj_C_keep L xs _ _ _ _ _ _ kc h0
  have hp' : P'.1 = .inl (9, L, .inl xs) := Option.some.inj h1
  obtain ⟨sc, F, S, G, Y, M, T, C, V, A⟩ := P
  have hsc : sc = .inl (9, L, .inl xs) := hp
  subst hsc
  obtain ⟨sc', F', S', G', Y', M', T', C', V', A'⟩ := P'
  have hsc' : sc' = .inl (9, L, .inl xs) := hp'
  subst hsc'
  refine mj_b0 40 rfl ?_
  refine mj_cV rfl rfl rfl rfl rfl rfl (kc) ?_
  refine mj_b0 40 rfl ?_
  refine mj_cV rfl rfl rfl rfl rfl rfl (km) ?_
  refine mj_b0 40 rfl ?_
  refine mj_brt (show r = r from rfl) ?_
  refine mj_b0 2 rfl ?_
  exact ih _ _ rfl hr'
set_option maxRecDepth 20000 in
theorem lw_21 (hL : L ≤ 3072) (hk : 6 * k + 6 ≤ L) (P : fP) (z : fZ) (hp : P.1 = .inl (9, L, .inl xs)) (hr : Rel P z) (ih : ∀ (P : fP) (z : fZ), P.1 = .inl (9, L, .inl xs) → Rel P z → mj_R (mj_C 40) 10 false (some .boolean) iL_law (18, [some (.ref 0), some (.ref 1), some (.ref 35), some (.int (nI (6 * k) + nI 6))], [], fbP P (mdz z)) Q) : mj_R (mj_C 40) 10 false (some .boolean) iL_law (941, [some (.ref 0), some (.ref 1), some (.ref 35), some (.int (nI (6 * k)))], [], fbP P (mdz z)) Q := by
  obtain ⟨r, P', z', kc, km, hr'⟩ := s_coloured (d := 19) (xs (nI (6 * k) + nI 1).toNatClampNeg) (xs (nI (6 * k) + nI 2).toNatClampNeg) P z hr
  have h0 : mj_nth (fbP P (mdz z)) 0 = some (.inl (9, L, .inl xs)) := by rw [← hp]; rfl
  have h1 := mj_C_keep L xs _ _ _ _ _ _ kc h0
  have hp' : P'.1 = .inl (9, L, .inl xs) := Option.some.inj h1
  obtain ⟨sc, F, S, G, Y, M, T, C, V, A⟩ := P
  have hsc : sc = .inl (9, L, .inl xs) := hp
  subst hsc
  obtain ⟨sc', F', S', G', Y', M', T', C', V', A'⟩ := P'
  have hsc' : sc' = .inl (9, L, .inl xs) := hp'
  subst hsc'
  refine mj_b1 40 rfl (⟨lw_ix (j := 1) hL hk (by decide), lw_ix (j := 2) hL hk (by decide)⟩) ?_
  refine mj_cV rfl rfl rfl rfl rfl rfl (kc) ?_
  refine mj_b1 40 rfl (⟨lw_ix (j := 1) hL hk (by decide), lw_ix (j := 2) hL hk (by decide)⟩) ?_
  refine mj_cV rfl rfl rfl rfl rfl rfl (km) ?_
  refine mj_b0 40 rfl ?_
  refine mj_brt (show r = r from rfl) ?_
  refine mj_b0 2 rfl ?_
  exact ih _ _ rfl hr'
set_option maxRecDepth 20000 in
theorem lw_22 (hL : L ≤ 3072) (hk : 6 * k + 6 ≤ L) (P : fP) (z : fZ) (hp : P.1 = .inl (9, L, .inl xs)) (hr : Rel P z) (ih : ∀ (P : fP) (z : fZ), P.1 = .inl (9, L, .inl xs) → Rel P z → mj_R (mj_C 40) 10 false (some .boolean) iL_law (18, [some (.ref 0), some (.ref 1), some (.ref 35), some (.int (nI (6 * k) + nI 6))], [], fbP P (mdz z)) Q) : mj_R (mj_C 40) 10 false (some .boolean) iL_law (974, [some (.ref 0), some (.ref 1), some (.ref 35), some (.int (nI (6 * k)))], [], fbP P (mdz z)) Q := by
  obtain ⟨r, P', z', kc, km, hr'⟩ := s_found (d := 19) (xs (nI (6 * k) + nI 1).toNatClampNeg) (xs (nI (6 * k) + nI 2).toNatClampNeg) (xs (nI (6 * k) + nI 3).toNatClampNeg) P z hr
  have h0 : mj_nth (fbP P (mdz z)) 0 = some (.inl (9, L, .inl xs)) := by rw [← hp]; rfl
  have h1 := mj_C_keep L xs _ _ _ _ _ _ kc h0
  have hp' : P'.1 = .inl (9, L, .inl xs) := Option.some.inj h1
  obtain ⟨sc, F, S, G, Y, M, T, C, V, A⟩ := P
  have hsc : sc = .inl (9, L, .inl xs) := hp
  subst hsc
  obtain ⟨sc', F', S', G', Y', M', T', C', V', A'⟩ := P'
  have hsc' : sc' = .inl (9, L, .inl xs) := hp'
  subst hsc'
  refine mj_b1 40 rfl (⟨⟨lw_ix (j := 1) hL hk (by decide), lw_ix (j := 2) hL hk (by decide)⟩, lw_ix (j := 3) hL hk (by decide)⟩) ?_
  refine mj_cV rfl rfl rfl rfl rfl rfl (kc) ?_
  refine mj_b1 40 rfl (⟨⟨lw_ix (j := 1) hL hk (by decide), lw_ix (j := 2) hL hk (by decide)⟩, lw_ix (j := 3) hL hk (by decide)⟩) ?_
  refine mj_cV rfl rfl rfl rfl rfl rfl (km) ?_
  refine mj_b0 40 rfl ?_
  refine mj_brt (show r = r from rfl) ?_
  refine mj_b0 2 rfl ?_
  exact ih _ _ rfl hr'
set_option maxRecDepth 20000 in
theorem lw_23 (hL : L ≤ 3072) (hk : 6 * k + 6 ≤ L) (P : fP) (z : fZ) (hp : P.1 = .inl (9, L, .inl xs)) (hr : Rel P z) (ih : ∀ (P : fP) (z : fZ), P.1 = .inl (9, L, .inl xs) → Rel P z → mj_R (mj_C 40) 10 false (some .boolean) iL_law (18, [some (.ref 0), some (.ref 1), some (.ref 35), some (.int (nI (6 * k) + nI 6))], [], fbP P (mdz z)) Q) : mj_R (mj_C 40) 10 false (some .boolean) iL_law (1017, [some (.ref 0), some (.ref 1), some (.ref 35), some (.int (nI (6 * k)))], [], fbP P (mdz z)) Q := by
  obtain ⟨r, P', z', kc, km, hr'⟩ := s_live (d := 37) (xs (nI (6 * k) + nI 1).toNatClampNeg) (xs (nI (6 * k) + nI 2).toNatClampNeg) P z hr
  have h0 : mj_nth (fbP P (mdz z)) 0 = some (.inl (9, L, .inl xs)) := by rw [← hp]; rfl
  have h1 := mj_C_keep L xs _ _ _ _ _ _ kc h0
  have hp' : P'.1 = .inl (9, L, .inl xs) := Option.some.inj h1
  obtain ⟨sc, F, S, G, Y, M, T, C, V, A⟩ := P
  have hsc : sc = .inl (9, L, .inl xs) := hp
  subst hsc
  obtain ⟨sc', F', S', G', Y', M', T', C', V', A'⟩ := P'
  have hsc' : sc' = .inl (9, L, .inl xs) := hp'
  subst hsc'
  refine mj_b1 40 rfl (⟨lw_ix (j := 1) hL hk (by decide), lw_ix (j := 2) hL hk (by decide)⟩) ?_
  refine mj_cV rfl rfl rfl rfl rfl rfl (kc) ?_
  refine mj_b1 40 rfl (⟨lw_ix (j := 1) hL hk (by decide), lw_ix (j := 2) hL hk (by decide)⟩) ?_
  refine mj_cV rfl rfl rfl rfl rfl rfl (km) ?_
  refine mj_b0 40 rfl ?_
  refine mj_brt (show r = r from rfl) ?_
  refine mj_b0 2 rfl ?_
  exact ih _ _ rfl hr'
end LW
