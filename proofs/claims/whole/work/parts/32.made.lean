/-! new FarBoards(): the cells it makes -/
section NW
variable {e0 e1 : mj_E} {d : Nat}
abbrev z0 : fA := fun _ => 0
abbrev cZ (n : Nat) : mj_E := .inl (0, n, .inl z0)
set_option maxRecDepth 20000 in
theorem n_sheets : mj_C (d + 2) nX5_init [.ref 2] [e0, e1, .inr (5, [.null, .null, .null])] none [e0, e1, .inr (5, [.ref 3, .ref 4, .ref 5]), cZ 480, .inl (0, 8, .inl (fl 8 (-(nI 1)) z0)), cZ 8] := by
  refine mj_C.of rfl rfl rfl ?_
  refine mj_b1 40 rfl (by decide) ?_
  refine mj_hq (h' := [e0, e1, .inr (5, [.ref 3, .ref 4, .ref 5]), cZ 480, cZ 8, cZ 8]) rfl ?_
  refine mj_cS rfl rfl rfl rfl (c_fill (-(nI 1)) (by omega) (a := 4) (n := 8) (f := z0) rfl) ?_
  exact mj_end rfl rfl trivial ⟨rfl, rfl⟩
variable {e2 e3 e4 e5 : mj_E}
abbrev G0 : List Value := [.ref 7, .ref 8, .ref 9, .ref 10, .ref 11, .ref 12, .ref 13, .int (nI 0), .int (nI 0), .int (nI 0), .int (nI 0)]
set_option maxRecDepth 20000 in
theorem n_ground : mj_C (d + 1) nX2_init [.ref 6] [e0, e1, e2, e3, e4, e5, .inr (2, [.null, .null, .null, .null, .null, .null, .null, .int 0, .int 0, .int 0, .int 0])] none [e0, e1, e2, e3, e4, e5, .inr (2, G0), cZ 400, cZ 400, cZ 400, cZ 7, cZ 400, cZ 2400, cZ 401] := by
  refine mj_C.of rfl rfl rfl ?_
  refine mj_b1 14 rfl (by decide) ?_
  refine mj_hq (h' := [e0, e1, e2, e3, e4, e5, .inr (2, [.ref 7, .ref 8, .ref 9, .null, .null, .null, .null, .int 0, .int 0, .int 0, .int 0]), cZ 400, cZ 400, cZ 400]) rfl ?_
  refine mj_b1 8 rfl (by decide) ?_
  refine mj_hq (h' := [e0, e1, e2, e3, e4, e5, .inr (2, [.ref 7, .ref 8, .ref 9, .ref 10, .ref 11, .null, .null, .int 0, .int 0, .int 0, .int 0]), cZ 400, cZ 400, cZ 400, cZ 7, cZ 400]) rfl ?_
  refine mj_b1 8 rfl (by decide) ?_
  refine mj_hq (h' := [e0, e1, e2, e3, e4, e5, .inr (2, [.ref 7, .ref 8, .ref 9, .ref 10, .ref 11, .ref 12, .ref 13, .int 0, .int 0, .int 0, .int 0]), cZ 400, cZ 400, cZ 400, cZ 7, cZ 400, cZ 2400, cZ 401]) rfl ?_
  refine mj_b0 40 rfl ?_
  exact mj_end rfl rfl trivial ⟨rfl, rfl⟩
end NW
