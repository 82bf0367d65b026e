section LW
variable {L k : Nat} {xs : Nat → Int32} {Q : Option Value → mj_H → Prop}
set_option maxRecDepth 20000 in
theorem lw_24 (hL : L ≤ 3072) (hk : 6 * k + 6 ≤ L) (P : fP) (z : fZ) (hp : P.1 = .inl (9, L, .inl xs)) (hr : Rel P z) (ih : ∀ (P : fP) (z : fZ), P.1 = .inl (9, L, .inl xs) → Rel P z → mj_R (mj_C 40) 10 false (some .boolean) iL_law (18, [some (.ref 0), some (.ref 1), some (.ref 35), some (.int (nI (6 * k) + nI 6))], [], fbP P (mdz z)) Q) : mj_R (mj_C 40) 10 false (some .boolean) iL_law (1050, [some (.ref 0), some (.ref 1), some (.ref 35), some (.int (nI (6 * k)))], [], fbP P (mdz z)) Q := by
  obtain ⟨r, P', z', kc, km, hr'⟩ := s_steps (d := 36) (xs (nI (6 * k) + nI 1).toNatClampNeg) (xs (nI (6 * k) + nI 2).toNatClampNeg) (xs (nI (6 * k) + nI 3).toNatClampNeg) P z hr
  have h0 : mj_nth (fbP P (mdz z)) 0 = some (.inl (9, L, .inl xs)) := by rw [← hp]; rfl
  have h1 := mj_C_keep L xs _ _ _ _ _ _ kc h0
  have hp' : P'.1 = .inl (9, L, .inl xs) := Option.some.inj h1
  obtain ⟨sc, F, S, G, Y, M, T, C, V, A⟩ := P
  have hsc : sc = .inl (9, L, .inl xs) := hp
  subst hsc
  obtain ⟨sc', F', S', G', Y', M', T', C', V', A'⟩ := P'
  have hsc' : sc' = .inl (9, L, .inl xs) := hp'
  subst hsc'
  refine mj_b1 40 rfl (⟨⟨lw_ix (j := 1) hL hk (by decide), lw_ix (j := 2) hL hk (by decide)⟩, lw_ix (j := 3) hL hk (by decide)⟩) ?_
  refine mj_cV rfl rfl rfl rfl rfl rfl (kc) ?_
  refine mj_b1 40 rfl (⟨⟨lw_ix (j := 1) hL hk (by decide), lw_ix (j := 2) hL hk (by decide)⟩, lw_ix (j := 3) hL hk (by decide)⟩) ?_
  refine mj_cV rfl rfl rfl rfl rfl rfl (km) ?_
  refine mj_b0 40 rfl ?_
  refine mj_brt (show r = r from rfl) ?_
  refine mj_b0 2 rfl ?_
  exact ih _ _ rfl hr'
set_option maxRecDepth 20000 in
theorem lw_25 (hL : L ≤ 3072) (hk : 6 * k + 6 ≤ L) (P : fP) (z : fZ) (hp : P.1 = .inl (9, L, .inl xs)) (hr : Rel P z) (ih : ∀ (P : fP) (z : fZ), P.1 = .inl (9, L, .inl xs) → Rel P z → mj_R (mj_C 40) 10 false (some .boolean) iL_law (18, [some (.ref 0), some (.ref 1), some (.ref 35), some (.int (nI (6 * k) + nI 6))], [], fbP P (mdz z)) Q) : mj_R (mj_C 40) 10 false (some .boolean) iL_law (1093, [some (.ref 0), some (.ref 1), some (.ref 35), some (.int (nI (6 * k)))], [], fbP P (mdz z)) Q := by
  obtain ⟨r, P', z', kc, km, hr'⟩ := s_living (d := 37) (xs (nI (6 * k) + nI 1).toNatClampNeg) P z hr
  have h0 : mj_nth (fbP P (mdz z)) 0 = some (.inl (9, L, .inl xs)) := by rw [← hp]; rfl
  have h1 := mj_C_keep L xs _ _ _ _ _ _ kc h0
  have hp' : P'.1 = .inl (9, L, .inl xs) := Option.some.inj h1
  obtain ⟨sc, F, S, G, Y, M, T, C, V, A⟩ := P
  have hsc : sc = .inl (9, L, .inl xs) := hp
  subst hsc
  obtain ⟨sc', F', S', G', Y', M', T', C', V', A'⟩ := P'
  have hsc' : sc' = .inl (9, L, .inl xs) := hp'
  subst hsc'
  refine mj_b1 40 rfl (lw_ix (j := 1) hL hk (by decide)) ?_
  refine mj_cV rfl rfl rfl rfl rfl rfl (kc) ?_
  refine mj_b1 40 rfl (lw_ix (j := 1) hL hk (by decide)) ?_
  refine mj_cV rfl rfl rfl rfl rfl rfl (km) ?_
  refine mj_b0 40 rfl ?_
  refine mj_brt (show r = r from rfl) ?_
  refine mj_b0 2 rfl ?_
  exact ih _ _ rfl hr'
set_option maxRecDepth 20000 in
theorem lw_26 (hL : L ≤ 3072) (hk : 6 * k + 6 ≤ L) (P : fP) (z : fZ) (hp : P.1 = .inl (9, L, .inl xs)) (hr : Rel P z) (ih : ∀ (P : fP) (z : fZ), P.1 = .inl (9, L, .inl xs) → Rel P z → mj_R (mj_C 40) 10 false (some .boolean) iL_law (18, [some (.ref 0), some (.ref 1), some (.ref 35), some (.int (nI (6 * k) + nI 6))], [], fbP P (mdz z)) Q) : mj_R (mj_C 40) 10 false (some .boolean) iL_law (1116, [some (.ref 0), some (.ref 1), some (.ref 35), some (.int (nI (6 * k)))], [], fbP P (mdz z)) Q := by
  obtain ⟨r, P', z', kc, km, hr'⟩ := s_turned (d := 36) (xs (nI (6 * k) + nI 1).toNatClampNeg) (xs (nI (6 * k) + nI 2).toNatClampNeg) P z hr
  have h0 : mj_nth (fbP P (mdz z)) 0 = some (.inl (9, L, .inl xs)) := by rw [← hp]; rfl
  have h1 := mj_C_keep L xs _ _ _ _ _ _ kc h0
  have hp' : P'.1 = .inl (9, L, .inl xs) := Option.some.inj h1
  obtain ⟨sc, F, S, G, Y, M, T, C, V, A⟩ := P
  have hsc : sc = .inl (9, L, .inl xs) := hp
  subst hsc
  obtain ⟨sc', F', S', G', Y', M', T', C', V', A'⟩ := P'
  have hsc' : sc' = .inl (9, L, .inl xs) := hp'
  subst hsc'
  refine mj_b1 40 rfl (⟨lw_ix (j := 1) hL hk (by decide), lw_ix (j := 2) hL hk (by decide)⟩) ?_
  refine mj_cV rfl rfl rfl rfl rfl rfl (kc) ?_
  refine mj_b1 40 rfl (⟨lw_ix (j := 1) hL hk (by decide), lw_ix (j := 2) hL hk (by decide)⟩) ?_
  refine mj_cV rfl rfl rfl rfl rfl rfl (km) ?_
  refine mj_b0 40 rfl ?_
  refine mj_brt (show r = r from rfl) ?_
  refine mj_b0 2 rfl ?_
  exact ih _ _ rfl hr'
set_option maxRecDepth 20000 in
theorem lw_27 (hL : L ≤ 3072) (hk : 6 * k + 6 ≤ L) (P : fP) (z : fZ) (hp : P.1 = .inl (9, L, .inl xs)) (hr : Rel P z) (ih : ∀ (P : fP) (z : fZ), P.1 = .inl (9, L, .inl xs) → Rel P z → mj_R (mj_C 40) 10 false (some .boolean) iL_law (18, [some (.ref 0), some (.ref 1), some (.ref 35), some (.int (nI (6 * k) + nI 6))], [], fbP P (mdz z)) Q) : mj_R (mj_C 40) 10 false (some .boolean) iL_law (1149, [some (.ref 0), some (.ref 1), some (.ref 35), some (.int (nI (6 * k)))], [], fbP P (mdz z)) Q := by
  obtain ⟨r, P', z', kc, km, hr'⟩ := s_alike (d := 35) (xs (nI (6 * k) + nI 1).toNatClampNeg) P z hr
  have h0 : mj_nth (fbP P (mdz z)) 0 = some (.inl (9, L, .inl xs)) := by rw [← hp]; rfl
  have h1 := mj_C_keep L xs _ _ _ _ _ _ kc h0
  have hp' : P'.1 = .inl (9, L, .inl xs) := Option.some.inj h1
  obtain ⟨sc, F, S, G, Y, M, T, C, V, A⟩ := P
  have hsc : sc = .inl (9, L, .inl xs) := hp
  subst hsc
  obtain ⟨sc', F', S', G', Y', M', T', C', V', A'⟩ := P'
  have hsc' : sc' = .inl (9, L, .inl xs) := hp'
  subst hsc'
  refine mj_b1 40 rfl (lw_ix (j := 1) hL hk (by decide)) ?_
  refine mj_cV rfl rfl rfl rfl rfl rfl (kc) ?_
  refine mj_b1 40 rfl (lw_ix (j := 1) hL hk (by decide)) ?_
  refine mj_cV rfl rfl rfl rfl rfl rfl (km) ?_
  refine mj_b0 40 rfl ?_
  refine mj_brt (show r = r from rfl) ?_
  refine mj_b0 2 rfl ?_
  exact ih _ _ rfl hr'
set_option maxRecDepth 20000 in
theorem lw_28 (hL : L ≤ 3072) (hk : 6 * k + 6 ≤ L) (P : fP) (z : fZ) (hp : P.1 = .inl (9, L, .inl xs)) (hr : Rel P z) (ih : ∀ (P : fP) (z : fZ), P.1 = .inl (9, L, .inl xs) → Rel P z → mj_R (mj_C 40) 10 false (some .boolean) iL_law (18, [some (.ref 0), some (.ref 1), some (.ref 35), some (.int (nI (6 * k) + nI 6))], [], fbP P (mdz z)) Q) : mj_R (mj_C 40) 10 false (some .boolean) iL_law (1172, [some (.ref 0), some (.ref 1), some (.ref 35), some (.int (nI (6 * k)))], [], fbP P (mdz z)) Q := by
  obtain ⟨r, P', z', kc, km, hr'⟩ := s_orbits (d := 36) (xs (nI (6 * k) + nI 1).toNatClampNeg) P z hr
  have h0 : mj_nth (fbP P (mdz z)) 0 = some (.inl (9, L, .inl xs)) := by rw [← hp]; rfl
  have h1 := mj_C_keep L xs _ _ _ _ _ _ kc h0
  have hp' : P'.1 = .inl (9, L, .inl xs) := Option.some.inj h1
  obtain ⟨sc, F, S, G, Y, M, T, C, V, A⟩ := P
  have hsc : sc = .inl (9, L, .inl xs) := hp
  subst hsc
  obtain ⟨sc', F', S', G', Y', M', T', C', V', A'⟩ := P'
  have hsc' : sc' = .inl (9, L, .inl xs) := hp'
  subst hsc'
  refine mj_b1 40 rfl (lw_ix (j := 1) hL hk (by decide)) ?_
  refine mj_cV rfl rfl rfl rfl rfl rfl (kc) ?_
  refine mj_b1 40 rfl (lw_ix (j := 1) hL hk (by decide)) ?_
  refine mj_cV rfl rfl rfl rfl rfl rfl (km) ?_
  refine mj_b0 40 rfl ?_
  refine mj_brt (show r = r from rfl) ?_
  refine mj_b0 2 rfl ?_
  exact ih _ _ rfl hr'
set_option maxRecDepth 20000 in
theorem lw_29 (hL : L ≤ 3072) (hk : 6 * k + 6 ≤ L) (P : fP) (z : fZ) (hp : P.1 = .inl (9, L, .inl xs)) (hr : Rel P z) (ih : ∀ (P : fP) (z : fZ), P.1 = .inl (9, L, .inl xs) → Rel P z → mj_R (mj_C 40) 10 false (some .boolean) iL_law (18, [some (.ref 0), some (.ref 1), some (.ref 35), some (.int (nI (6 * k) + nI 6))], [], fbP P (mdz z)) Q) : mj_R (mj_C 40) 10 false (some .boolean) iL_law (1195, [some (.ref 0), some (.ref 1), some (.ref 35), some (.int (nI (6 * k)))], [], fbP P (mdz z)) Q := by
  obtain ⟨r, P', z', kc, km, hr'⟩ := s_kind (d := 37) (xs (nI (6 * k) + nI 1).toNatClampNeg) P z hr
  have h0 : mj_nth (fbP P (mdz z)) 0 = some (.inl (9, L, .inl xs)) := by rw [← hp]; rfl
  have h1 := mj_C_keep L xs _ _ _ _ _ _ kc h0
  have hp' : P'.1 = .inl (9, L, .inl xs) := Option.some.inj h1
  obtain ⟨sc, F, S, G, Y, M, T, C, V, A⟩ := P
  have hsc : sc = .inl (9, L, .inl xs) := hp
  subst hsc
  obtain ⟨sc', F', S', G', Y', M', T', C', V', A'⟩ := P'
  have hsc' : sc' = .inl (9, L, .inl xs) := hp'
  subst hsc'
  refine mj_b1 40 rfl (lw_ix (j := 1) hL hk (by decide)) ?_
  refine mj_cV rfl rfl rfl rfl rfl rfl (kc) ?_
  refine mj_b1 40 rfl (lw_ix (j := 1) hL hk (by decide)) ?_
  refine mj_cV rfl rfl rfl rfl rfl rfl (km) ?_
  refine mj_b0 40 rfl ?_
  refine mj_brt (show r = r from rfl) ?_
  refine mj_b0 2 rfl ?_
  exact ih _ _ rfl hr'
set_option maxRecDepth 20000 in
theorem lw_30 (hL : L ≤ 3072) (hk : 6 * k + 6 ≤ L) (P : fP) (z : fZ) (hp : P.1 = .inl (9, L, .inl xs)) (hr : Rel P z) (ih : ∀ (P : fP) (z : fZ), P.1 = .inl (9, L, .inl xs) → Rel P z → mj_R (mj_C 40) 10 false (some .boolean) iL_law (18, [some (.ref 0), some (.ref 1), some (.ref 35), some (.int (nI (6 * k) + nI 6))], [], fbP P (mdz z)) Q) : mj_R (mj_C 40) 10 false (some .boolean) iL_law (1218, [some (.ref 0), some (.ref 1), some (.ref 35), some (.int (nI (6 * k)))], [], fbP P (mdz z)) Q := by
  obtain ⟨r, P', z', kc, km, hr'⟩ := s_as (d := 37) (xs (nI (6 * k) + nI 1).toNatClampNeg) (xs (nI (6 * k) + nI 2).toNatClampNeg) P z hr
  have h0 : mj_nth (fbP P (mdz z)) 0 = some (.inl (9, L, .inl xs)) := by rw [← hp]; rfl
  have h1 := mj_C_keep L xs _ _ _ _ _ _ kc h0
  have hp' : P'.1 = .inl (9, L, .inl xs) := Option.some.inj h1
  obtain ⟨sc, F, S, G, Y, M, T, C, V, A⟩ := P
  have hsc : sc = .inl (9, L, .inl xs) := hp
  subst hsc
  obtain ⟨sc', F', S', G', Y', M', T', C', V', A'⟩ := P'
  have hsc' : sc' = .inl (9, L, .inl xs) := hp'
  subst hsc'
  refine mj_b1 40 rfl (⟨lw_ix (j := 1) hL hk (by decide), lw_ix (j := 2) hL hk (by decide)⟩) ?_
  refine mj_cV rfl rfl rfl rfl rfl rfl (kc) ?_
  refine mj_b1 40 rfl (⟨lw_ix (j := 1) hL hk (by decide), lw_ix (j := 2) hL hk (by decide)⟩) ?_
  refine mj_cV rfl rfl rfl rfl rfl rfl (km) ?_
  refine mj_b0 40 rfl ?_
  refine mj_brt (show r = r from rfl) ?_
  refine mj_b0 2 rfl ?_
  exact ih _ _ rfl hr'
set_option maxRecDepth 20000 in
theorem lw_31 (hL : L ≤ 3072) (hk : 6 * k + 6 ≤ L) (P : fP) (z : fZ) (hp : P.1 = .inl (9, L, .inl xs)) (hr : Rel P z) (ih : ∀ (P : fP) (z : fZ), P.1 = .inl (9, L, .inl xs) → Rel P z → mj_R (mj_C 40) 10 false (some .boolean) iL_law (18, [some (.ref 0), some (.ref 1), some (.ref 35), some (.int (nI (6 * k) + nI 6))], [], fbP P (mdz z)) Q) : mj_R (mj_C 40) 10 false (some .boolean) iL_law (1251, [some (.ref 0), some (.ref 1), some (.ref 35), some (.int (nI (6 * k)))], [], fbP P (mdz z)) Q := by
  obtain ⟨r, P', z', kc, km, hr'⟩ := s_ask (d := 32) (xs (nI (6 * k) + nI 1).toNatClampNeg) (xs (nI (6 * k) + nI 2).toNatClampNeg) P z hr
  have h0 : mj_nth (fbP P (mdz z)) 0 = some (.inl (9, L, .inl xs)) := by rw [← hp]; rfl
  have h1 := mj_C_keep L xs _ _ _ _ _ _ kc h0
  have hp' : P'.1 = .inl (9, L, .inl xs) := Option.some.inj h1
  obtain ⟨sc, F, S, G, Y, M, T, C, V, A⟩ := P
  have hsc : sc = .inl (9, L, .inl xs) := hp
  subst hsc
  obtain ⟨sc', F', S', G', Y', M', T', C', V', A'⟩ := P'
  have hsc' : sc' = .inl (9, L, .inl xs) := hp'
  subst hsc'
  refine mj_b1 40 rfl (⟨lw_ix (j := 1) hL hk (by decide), lw_ix (j := 2) hL hk (by decide)⟩) ?_
  refine mj_cV rfl rfl rfl rfl rfl rfl (kc) ?_
  refine mj_b1 40 rfl (⟨lw_ix (j := 1) hL hk (by decide), lw_ix (j := 2) hL hk (by decide)⟩) ?_
  refine mj_cV rfl rfl rfl rfl rfl rfl (km) ?_
  refine mj_b0 40 rfl ?_
  refine mj_brt (show r = r from rfl) ?_
  refine mj_b0 2 rfl ?_
  exact ih _ _ rfl hr'
set_option maxRecDepth 20000 in
theorem lw_32 (hL : L ≤ 3072) (hk : 6 * k + 6 ≤ L) (P : fP) (z : fZ) (hp : P.1 = .inl (9, L, .inl xs)) (hr : Rel P z) (ih : ∀ (P : fP) (z : fZ), P.1 = .inl (9, L, .inl xs) → Rel P z → mj_R (mj_C 40) 10 false (some .boolean) iL_law (18, [some (.ref 0), some (.ref 1), some (.ref 35), some (.int (nI (6 * k) + nI 6))], [], fbP P (mdz z)) Q) : mj_R (mj_C 40) 10 false (some .boolean) iL_law (1284, [some (.ref 0), some (.ref 1), some (.ref 35), some (.int (nI (6 * k)))], [], fbP P (mdz z)) Q := by
  obtain ⟨r, P', z', kc, km, hr'⟩ := s_trace (d := 38) (xs (nI (6 * k) + nI 1).toNatClampNeg) P z hr
  have h0 : mj_nth (fbP P (mdz z)) 0 = some (.inl (9, L, .inl xs)) := by rw [← hp]; rfl
  have h1 := mj_C_keep L xs _ _ _ _ _ _ kc h0
  have hp' : P'.1 = .inl (9, L, .inl xs) := Option.some.inj h1
  obtain ⟨sc, F, S, G, Y, M, T, C, V, A⟩ := P
  have hsc : sc = .inl (9, L, .inl xs) := hp
  subst hsc
  obtain ⟨sc', F', S', G', Y', M', T', C', V', A'⟩ := P'
  have hsc' : sc' = .inl (9, L, .inl xs) := hp'
  subst hsc'
  refine mj_b1 40 rfl (lw_ix (j := 1) hL hk (by decide)) ?_
  refine mj_cV rfl rfl rfl rfl rfl rfl (kc) ?_
  refine mj_b1 40 rfl (lw_ix (j := 1) hL hk (by decide)) ?_
  refine mj_cV rfl rfl rfl rfl rfl rfl (km) ?_
  refine mj_b0 40 rfl ?_
  refine mj_brt (show r = r from rfl) ?_
  refine mj_b0 2 rfl ?_
  exact ih _ _ rfl hr'
set_option maxRecDepth 20000 in
theorem lw_33 (hL : L ≤ 3072) (hk : 6 * k + 6 ≤ L) (P : fP) (z : fZ) (hp : P.1 = .inl (9, L, .inl xs)) (hr : Rel P z) (ih : ∀ (P : fP) (z : fZ), P.1 = .inl (9, L, .inl xs) → Rel P z → mj_R (mj_C 40) 10 false (some .boolean) iL_law (18, [some (.ref 0), some (.ref 1), some (.ref 35), some (.int (nI (6 * k) + nI 6))], [], fbP P (mdz z)) Q) : mj_R (mj_C 40) 10 false (some .boolean) iL_law (1307, [some (.ref 0), some (.ref 1), some (.ref 35), some (.int (nI (6 * k)))], [], fbP P (mdz z)) Q := by
  obtain ⟨r, P', z', kc, km, hr'⟩ := s_count (d := 36) (xs (nI (6 * k) + nI 1).toNatClampNeg) P z hr
  have h0 : mj_nth (fbP P (mdz z)) 0 = some (.inl (9, L, .inl xs)) := by rw [← hp]; rfl
  have h1 := mj_C_keep L xs _ _ _ _ _ _ kc h0
  have hp' : P'.1 = .inl (9, L, .inl xs) := Option.some.inj h1
  obtain ⟨sc, F, S, G, Y, M, T, C, V, A⟩ := P
  have hsc : sc = .inl (9, L, .inl xs) := hp
  subst hsc
  obtain ⟨sc', F', S', G', Y', M', T', C', V', A'⟩ := P'
  have hsc' : sc' = .inl (9, L, .inl xs) := hp'
  subst hsc'
  refine mj_b1 40 rfl (lw_ix (j := 1) hL hk (by decide)) ?_
  refine mj_cV rfl rfl rfl rfl rfl rfl (kc) ?_
  refine mj_b1 40 rfl (lw_ix (j := 1) hL hk (by decide)) ?_
  refine mj_cV rfl rfl rfl rfl rfl rfl (km) ?_
  refine mj_b0 40 rfl ?_
  refine mj_brt (show r = r from rfl) ?_
  refine mj_b0 2 rfl ?_
  exact ih _ _ rfl hr'
set_option maxRecDepth 20000 in
theorem lw_34 (hL : L ≤ 3072) (hk : 6 * k + 6 ≤ L) (P : fP) (z : fZ) (hp : P.1 = .inl (9, L, .inl xs)) (hr : Rel P z) (ih : ∀ (P : fP) (z : fZ), P.1 = .inl (9, L, .inl xs) → Rel P z → mj_R (mj_C 40) 10 false (some .boolean) iL_law (18, [some (.ref 0), some (.ref 1), some (.ref 35), some (.int (nI (6 * k) + nI 6))], [], fbP P (mdz z)) Q) : mj_R (mj_C 40) 10 false (some .boolean) iL_law (1330, [some (.ref 0), some (.ref 1), some (.ref 35), some (.int (nI (6 * k)))], [], fbP P (mdz z)) Q := by
  obtain ⟨r, P', z', kc, km, hr'⟩ := s_status (d := 39)  P z hr
  have h0 : mj_nth (fbP P (mdz z)) 0 = some (.inl (9, L, .inl xs)) := by rw [← hp]; rfl
  have h1 := mj_C_keep L xs _ _ _ _ _ _ kc h0
  have hp' : P'.1 = .inl (9, L, .inl xs) := Option.some.inj h1
  obtain ⟨sc, F, S, G, Y, M, T, C, V, A⟩ := P
  have hsc : sc = .inl (9, L, .inl xs) := hp
  subst hsc
  obtain ⟨sc', F', S', G', Y', M', T', C', V', A'⟩ := P'
  have hsc' : sc' = .inl (9, L, .inl xs) := hp'
  subst hsc'
  refine mj_b0 40 rfl ?_
  refine mj_cV rfl rfl rfl rfl rfl rfl (kc) ?_
  refine mj_b0 40 rfl ?_
  refine mj_cV rfl rfl rfl rfl rfl rfl (km) ?_
  refine mj_b0 40 rfl ?_
  refine mj_brt (show r = r from rfl) ?_
  refine mj_b0 2 rfl ?_
  exact ih _ _ rfl hr'
end LW
