theorem tr_beyond (d : Nat) (c s : Int32) (f : Nat → Int32) (e0 e1 e3 e4 e5 e6 e7 e8 : mj_E) (sd rg cl : Int32) (t : mj_H) :
    mj_C (d + 1) nX2_beyond [.ref 2, .int c, .int s] (e0 :: e1 :: .inr (2, [.ref 3, .ref 4, .ref 5, .ref 6, .ref 7, .ref 9, .int sd, .int rg, .int cl]) :: e3 :: e4 :: e5 :: e6 :: e7 :: e8 :: .inl (0, 4000, .inl f) :: t)
      (some (.int (if vp_in (c * 10 + s) 4000 then f (c * 10 + s).toNatClampNeg else -1000000))) (e0 :: e1 :: .inr (2, [.ref 3, .ref 4, .ref 5, .ref 6, .ref 7, .ref 9, .int sd, .int rg, .int cl]) :: e3 :: e4 :: e5 :: e6 :: e7 :: e8 :: .inl (0, 4000, .inl f) :: t) := by
  refine mj_C.of rfl rfl ?_
  refine mj_b0 40 rfl ?_
  refine mj_br (fun h1 => ?_) (fun h1 => ?_)
  · refine mj_b0 40 rfl ?_
    refine mj_end rfl rfl trivial ⟨?_, rfl⟩
    sorry
  · refine mj_b0 40 rfl ?_
    refine mj_br (fun h2 => ?_) (fun h2 => ?_)
    · refine mj_b0 40 rfl ?_
      refine mj_end rfl rfl trivial ⟨?_, rfl⟩
      sorry
    · refine mj_b1 40 rfl ?_ ?_
      · sorry
      refine mj_end rfl rfl trivial ⟨?_, rfl⟩
      sorry
