/-! FarBoards() -/
section NW3
variable {d : Nat} {sc : mj_E}
set_option maxRecDepth 40000 in
set_option maxHeartbeats 4000000 in
theorem x_new : ∃ (G : fG) (C1 : fA) (V : fV), Bd 8 G ∧ (∀ i, i < 400 → C1 i = nI 0) ∧ V.2.2 = (31, 32) ∧ (∀ i, i < 400 → V.1 i = nI 0) ∧ mj_C (d + 7) nX8_init [.ref 1] [sc, .inr (8, [.null, .null, .null, .null, .null, .null, .null, .null, .int 0, .int 0])] none (fbH sc (nI 0, nI 0) (z0, fl 8 (-(nI 1)) z0, z0) G (z0, z0, z0, z0, z0, 18, 19) (nI 0, nI 0, nI 0, nI 0) (z0, z0, z0, z0, nI 0, nI 0) (C1, z0, z0) V (z0, nI 0) []) := by
  obtain ⟨G, C1, V, hB, h1, h2, h3, hc⟩ := x_begin (sc := sc) (F := (nI 0, nI 0)) (S := (z0, fl 8 (-(nI 1)) z0, z0)) (G := (z0, z0, z0, z0, (z0, z0, z0, nI 0), z0, nI 0, nI 0, nI 0)) (Y := (z0, z0, z0, z0, z0, 18, 19)) (M := (nI 0, nI 0, nI 0, nI 0)) (T := (z0, z0, z0, z0, nI 0, nI 0)) (C := (z0, z0, z0)) (A := (z0, nI 0)) (Z := []) (d := d) (b := 8) (by omega) (l1 := z0) (l2 := z0) (q := (31, 32)) (Or.inl rfl)
  refine ⟨G, C1, V, hB, h1, h2, fun i hi => h3 i hi, ?_⟩
  refine mj_C.of rfl rfl rfl ?_
  refine mj_b0 40 rfl ?_
  refine mj_hq (h' := [sc, .inr (8, [.null, .null, .null, .null, .null, .null, .null, .null, .int 0, .int 0]), .inr (5, [.null, .null, .null])]) rfl ?_
  refine mj_cI rfl rfl (by decide) rfl rfl n_sheets ?_
  refine mj_b0 40 rfl ?_
  refine mj_hq (h' := [sc, .inr (8, [.ref 2, .null, .null, .null, .null, .null, .null, .null, .int 0, .int 0]), .inr (5, [.ref 3, .ref 4, .ref 5]), cZ 480, .inl (0, 8, .inl (fl 8 (-(nI 1)) z0)), cZ 8, .inr (2, [.null, .null, .null, .null, .null, .null, .null, .int 0, .int 0, .int 0, .int 0])]) rfl ?_
  refine mj_cI rfl rfl (by decide) rfl rfl n_ground ?_
  refine mj_b0 40 rfl ?_
  refine mj_hq (h' := [sc, .inr (8, [.ref 2, .ref 6, .null, .null, .null, .null, .null, .null, .int 0, .int 0]), .inr (5, [.ref 3, .ref 4, .ref 5]), cZ 480, .inl (0, 8, .inl (fl 8 (-(nI 1)) z0)), cZ 8, .inr (2, G0), cZ 400, cZ 400, cZ 400, cZ 7, cZ 400, cZ 2400, cZ 401, .inr (7, [.null, .null, .null, .null, .null, .null])]) rfl ?_
  refine mj_cI rfl rfl (by decide) rfl rfl n_ways ?_
  refine mj_b0 40 rfl ?_
  refine mj_hq (h' := [sc, .inr (8, [.ref 2, .ref 6, .ref 14, .null, .null, .null, .null, .null, .int 0, .int 0]), .inr (5, [.ref 3, .ref 4, .ref 5]), cZ 480, .inl (0, 8, .inl (fl 8 (-(nI 1)) z0)), cZ 8, .inr (2, G0), cZ 400, cZ 400, cZ 400, cZ 7, cZ 400, cZ 2400, cZ 401, .inr (7, [.ref 15, .ref 16, .ref 17, .ref 6, .ref 18, .ref 19]), cZ 400, cZ 400, cZ 400, cZ 400, cZ 400, .inr (4, [.null, .int 0, .int 0, .int 0, .int 0])]) rfl ?_
  refine mj_cI rfl rfl (by decide) rfl rfl n_mouse ?_
  refine mj_b0 40 rfl ?_
  refine mj_hq (h' := [sc, .inr (8, [.ref 2, .ref 6, .ref 14, .ref 20, .null, .null, .null, .null, .int 0, .int 0]), .inr (5, [.ref 3, .ref 4, .ref 5]), cZ 480, .inl (0, 8, .inl (fl 8 (-(nI 1)) z0)), cZ 8, .inr (2, G0), cZ 400, cZ 400, cZ 400, cZ 7, cZ 400, cZ 2400, cZ 401, .inr (7, [.ref 15, .ref 16, .ref 17, .ref 6, .ref 18, .ref 19]), cZ 400, cZ 400, cZ 400, cZ 400, cZ 400, .inr (4, [.ref 6, .int (nI 0), .int (nI 0), .int (nI 0), .int (nI 0)]), .inr (6, [.null, .null, .null, .null, .int 0, .int 0])]) rfl ?_
  refine mj_cI rfl rfl (by decide) rfl rfl n_tape ?_
  refine mj_b0 40 rfl ?_
  refine mj_hq (h' := [sc, .inr (8, [.ref 2, .ref 6, .ref 14, .ref 20, .ref 21, .null, .null, .null, .int 0, .int 0]), .inr (5, [.ref 3, .ref 4, .ref 5]), cZ 480, .inl (0, 8, .inl (fl 8 (-(nI 1)) z0)), cZ 8, .inr (2, G0), cZ 400, cZ 400, cZ 400, cZ 7, cZ 400, cZ 2400, cZ 401, .inr (7, [.ref 15, .ref 16, .ref 17, .ref 6, .ref 18, .ref 19]), cZ 400, cZ 400, cZ 400, cZ 400, cZ 400, .inr (4, [.ref 6, .int (nI 0), .int (nI 0), .int (nI 0), .int (nI 0)]), .inr (6, [.ref 22, .ref 23, .ref 24, .ref 25, .int (nI 0), .int (nI 0)]), .inl (1, 2000, .inl z0), .inl (1, 300, .inl z0), cZ 4, cZ 4, .inr (1, [.null, .null, .null, .null])]) rfl ?_
  refine mj_cI rfl rfl (by decide) rfl rfl n_colours ?_
  refine mj_b0 40 rfl ?_
  refine mj_hq (h' := [sc, .inr (8, [.ref 2, .ref 6, .ref 14, .ref 20, .ref 21, .ref 26, .null, .null, .int 0, .int 0]), .inr (5, [.ref 3, .ref 4, .ref 5]), cZ 480, .inl (0, 8, .inl (fl 8 (-(nI 1)) z0)), cZ 8, .inr (2, G0), cZ 400, cZ 400, cZ 400, cZ 7, cZ 400, cZ 2400, cZ 401, .inr (7, [.ref 15, .ref 16, .ref 17, .ref 6, .ref 18, .ref 19]), cZ 400, cZ 400, cZ 400, cZ 400, cZ 400, .inr (4, [.ref 6, .int (nI 0), .int (nI 0), .int (nI 0), .int (nI 0)]), .inr (6, [.ref 22, .ref 23, .ref 24, .ref 25, .int (nI 0), .int (nI 0)]), .inl (1, 2000, .inl z0), .inl (1, 300, .inl z0), cZ 4, cZ 4, .inr (1, [.ref 27, .ref 28, .ref 29, .ref 6]), cZ 400, cZ 16, cZ 4, .inr (3, [.null, .null, .null])]) rfl ?_
  refine mj_cI rfl rfl (by decide) rfl rfl n_life ?_
  refine mj_b0 40 rfl ?_
  refine mj_hq (h' := [sc, .inr (8, [.ref 2, .ref 6, .ref 14, .ref 20, .ref 21, .ref 26, .ref 30, .null, .int 0, .int 0]), .inr (5, [.ref 3, .ref 4, .ref 5]), cZ 480, .inl (0, 8, .inl (fl 8 (-(nI 1)) z0)), cZ 8, .inr (2, G0), cZ 400, cZ 400, cZ 400, cZ 7, cZ 400, cZ 2400, cZ 401, .inr (7, [.ref 15, .ref 16, .ref 17, .ref 6, .ref 18, .ref 19]), cZ 400, cZ 400, cZ 400, cZ 400, cZ 400, .inr (4, [.ref 6, .int (nI 0), .int (nI 0), .int (nI 0), .int (nI 0)]), .inr (6, [.ref 22, .ref 23, .ref 24, .ref 25, .int (nI 0), .int (nI 0)]), .inl (1, 2000, .inl z0), .inl (1, 300, .inl z0), cZ 4, cZ 4, .inr (1, [.ref 27, .ref 28, .ref 29, .ref 6]), cZ 400, cZ 16, cZ 4, .inr (3, [.ref 6, .ref 31, .ref 32]), cZ 400, cZ 400, .inr (0, [.null, .int 0, .null])]) rfl ?_
  refine mj_cI rfl rfl (by decide) rfl rfl n_asks ?_
  refine mj_b0 40 rfl ?_
  refine mj_hq (h' := fbH sc (nI 0, nI 0) (z0, fl 8 (-(nI 1)) z0, z0) (z0, z0, z0, z0, (z0, z0, z0, nI 0), z0, nI 0, nI 0, nI 0) (z0, z0, z0, z0, z0, 18, 19) (nI 0, nI 0, nI 0, nI 0) (z0, z0, z0, z0, nI 0, nI 0) (z0, z0, z0) (z0, z0, 31, 32) (z0, nI 0) []) rfl ?_
  refine mj_cV rfl rfl rfl rfl rfl rfl hc ?_
  exact mj_end rfl rfl trivial ⟨rfl, rfl⟩
end NW3
