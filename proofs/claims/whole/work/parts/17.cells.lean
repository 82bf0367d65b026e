/-! the class's cells in a row: the script, then what FarBoards() makes in its order, then Z (the model's) -/
abbrev fA : Type := Nat → Int32
/-- Ground's firstOwn, beside, besideStart, listed -/
abbrev fO : Type := fA × fA × fA × Int32
/-- the sixth row (what is at each side, EDGES too) is no cell of the class's: it is the model's row; of the model the fifth is none -/
abbrev fG : Type := fA × fA × fA × fA × fO × fA × Int32 × Int32 × Int32
abbrev fC : Type := fA × fA × fA
abbrev gro (G : fG) : fA := G.1
abbrev gfp (G : fG) : fA := G.2.1
abbrev gop (G : fG) : fA := G.2.2.1
abbrev grs (G : fG) : fA := G.2.2.2.1
abbrev gfo (G : fG) : fA := G.2.2.2.2.1.1
abbrev gbe (G : fG) : fA := G.2.2.2.2.1.2.1
abbrev gbs (G : fG) : fA := G.2.2.2.2.1.2.2.1
abbrev gls (G : fG) : Int32 := G.2.2.2.2.1.2.2.2
abbrev gat (G : fG) : fA := G.2.2.2.2.2.1
abbrev gsd (G : fG) : Int32 := G.2.2.2.2.2.2.1
abbrev grg (G : fG) : Int32 := G.2.2.2.2.2.2.2.1
abbrev gcl (G : fG) : Int32 := G.2.2.2.2.2.2.2.2
abbrev fY : Type := fA × fA × fA × fA × fA × Nat × Nat
abbrev fM : Type := Int32 × Int32 × Int32 × Int32
abbrev fT : Type := fA × fA × fA × fA × Int32 × Int32
abbrev fV : Type := fA × fA × Nat × Nat
def fbH (sc : mj_E) (F : Int32 × Int32) (S : fA × fA × fA) (G : fG) (Y : fY) (M : fM) (T : fT) (C : fC) (V : fV) (A : fA × Int32) (Z : mj_H) : mj_H :=
  sc :: .inr (8, [.ref 2, .ref 6, .ref 14, .ref 20, .ref 21, .ref 26, .ref 30, .ref 33, .int F.1, .int F.2]) ::
  .inr (5, [.ref 3, .ref 4, .ref 5]) :: .inl (0, 480, .inl S.1) :: .inl (0, 8, .inl S.2.1) :: .inl (0, 8, .inl S.2.2) ::
  .inr (2, [.ref 7, .ref 8, .ref 9, .ref 10, .ref 11, .ref 12, .ref 13, .int (gls G), .int (gsd G), .int (grg G), .int (gcl G)]) :: .inl (0, 400, .inl (gro G)) :: .inl (0, 400, .inl (gfp G)) :: .inl (0, 400, .inl (gop G)) :: .inl (0, 7, .inl (grs G)) :: .inl (0, 400, .inl (gfo G)) :: .inl (0, 2400, .inl (gbe G)) :: .inl (0, 401, .inl (gbs G)) ::
  .inr (7, [.ref 15, .ref 16, .ref 17, .ref 6, .ref Y.2.2.2.2.2.1, .ref Y.2.2.2.2.2.2]) :: .inl (0, 400, .inl Y.1) :: .inl (0, 400, .inl Y.2.1) :: .inl (0, 400, .inl Y.2.2.1) :: .inl (0, 400, .inl Y.2.2.2.1) :: .inl (0, 400, .inl Y.2.2.2.2.1) ::
  .inr (4, [.ref 6, .int M.1, .int M.2.1, .int M.2.2.1, .int M.2.2.2]) ::
  .inr (6, [.ref 22, .ref 23, .ref 24, .ref 25, .int T.2.2.2.2.1, .int T.2.2.2.2.2]) :: .inl (1, 2000, .inl T.1) :: .inl (1, 300, .inl T.2.1) :: .inl (0, 4, .inl T.2.2.1) :: .inl (0, 4, .inl T.2.2.2.1) ::
  .inr (1, [.ref 27, .ref 28, .ref 29, .ref 6]) :: .inl (0, 400, .inl C.1) :: .inl (0, 16, .inl C.2.1) :: .inl (0, 4, .inl C.2.2) ::
  .inr (3, [.ref 6, .ref V.2.2.1, .ref V.2.2.2]) :: .inl (0, 400, .inl V.1) :: .inl (0, 400, .inl V.2.1) ::
  .inr (0, [.ref 34, .int A.2, .ref 6]) :: .inl (0, 16, .inl A.1) :: Z
/-! calls by what stands on the stack -/
def mj_pop : Nat → List Value → List Value → Option (List Value × List Value)
  | 0, st, acc => some (acc, st)
  | n + 1, v :: st, acc => mj_pop n st (v :: acc)
  | _ + 1, [], _ => none
theorem mj_pop_eq : ∀ (n : Nat) (st acc av rest : List Value), mj_pop n st acc = some (av, rest) → av.reverse ++ rest = acc.reverse ++ st ∧ av.length = n + acc.length
  | 0, st, acc, av, rest, h => by cases h; exact ⟨rfl, by omega⟩
  | n + 1, [], acc, av, rest, h => by cases h
  | n + 1, v :: st, acc, av, rest, h => by
    obtain ⟨h1, h2⟩ := mj_pop_eq n st (v :: acc) av rest h
    refine ⟨by rw [h1]; simp, by rw [h2]; simp; omega⟩
section RC
variable {C : mj_Cl} {own : Nat} {ini : Bool} {ret : Option FieldType} {K : mj_K} {Q : Option Value → mj_H → Prop}
theorem mj_cS {pc : Nat} {ls : List (Option Value)} {st : List Value} {h h' : mj_H} {r : Option Value} {idx y n : Nat} {pp : Nat × Nat × Nat × Nat} {av rest : List Value} (h1 : mj_ld K pc = some (.invokestatic idx)) (h2 : mj_lk (mj_row mj_calT own) idx = some (0, y, n, pp)) (h3 : mj_pop n st [] = some (av, rest)) (h4 : Nat.ble (mj_cat rest) 8 = true) (hc : C y av h r h') (k : mj_R C own ini ret K (pc + 3, ls, r.toList ++ rest, h') Q) : mj_R C own ini ret K (pc, ls, st, h) Q := by
  obtain ⟨a1, a2⟩ := mj_pop_eq _ _ _ _ _ h3
  exact mj_callS av rest h1 h2 (by simpa using a1.symm) h4 (by simpa using a2) hc k
theorem mj_cV {pc : Nat} {ls : List (Option Value)} {st : List Value} {h h' : mj_H} {r : Option Value} {idx y n a : Nat} {pp : Nat × Nat × Nat × Nat} {fs : List Value} {e : Nat × Nat × Bool × Option FieldType × List (Option Instr)} {av rest : List Value} (h1 : mj_ld K pc = some (.invokevirtual idx)) (h2 : mj_lk (mj_row mj_calT own) idx = some (1, y, n, pp)) (h3 : mj_pop (n + 1) st [] = some (.ref a :: av, rest)) (h4 : Nat.ble (mj_cat rest) 8 = true) (h6 : mj_nth mj_tab y = some e) (h7 : mj_nth h a = some (.inr (e.1, fs))) (hc : C y (.ref a :: av) h r h') (k : mj_R C own ini ret K (pc + 3, ls, r.toList ++ rest, h') Q) : mj_R C own ini ret K (pc, ls, st, h) Q := by
  obtain ⟨a1, a2⟩ := mj_pop_eq _ _ _ _ _ h3
  exact mj_callV av rest h1 h2 (by simpa using a1.symm) h4 (by simpa using a2) h6 h7 hc k
theorem mj_cI {pc : Nat} {ls : List (Option Value)} {st : List Value} {h h' : mj_H} {r : Option Value} {idx kd y n a : Nat} {pp : Nat × Nat × Nat × Nat} {av rest : List Value} (h1 : mj_ld K pc = some (.invokespecial idx)) (h2 : mj_lk (mj_row mj_calT own) idx = some (kd, y, n, pp)) (h2' : kd = 2 ∨ kd = 3) (h3 : mj_pop (n + 1) st [] = some (.ref a :: av, rest)) (h4 : Nat.ble (mj_cat rest) 8 = true) (hc : C y (.ref a :: av) h r h') (k : mj_R C own ini ret K (pc + 3, ls, r.toList ++ rest, h') Q) : mj_R C own ini ret K (pc, ls, st, h) Q := by
  obtain ⟨a1, a2⟩ := mj_pop_eq _ _ _ _ _ h3
  exact mj_callI av rest h1 h2 h2' (by simpa using a1.symm) h4 (by simpa using a2) hc k
/-- the same cells under another name -/
theorem mj_hq {pc : Nat} {ls : List (Option Value)} {st : List Value} {h h' : mj_H} (e : h = h') (k : mj_R C own ini ret K (pc, ls, st, h') Q) : mj_R C own ini ret K (pc, ls, st, h) Q := by rw [e]; exact k
end RC
/-! numbers -/
def vB (p : Prop) [Decidable p] : Int32 := if p then 1 else 0
theorem vB_t {p : Prop} [Decidable p] (h : p) : vB p = 1 := if_pos h
theorem vB_f {p : Prop} [Decidable p] (h : ¬ p) : vB p = 0 := if_neg h
theorem vB_01 (p : Prop) [Decidable p] : vB p = 0 ∨ vB p = 1 := by
  by_cases h : p
  · exact Or.inr (vB_t h)
  · exact Or.inl (vB_f h)
theorem vB_0 {p : Prop} [Decidable p] : vB p = nI 0 ↔ ¬ p := by
  by_cases h : p
  · rw [vB_t h]; exact ⟨fun q => absurd q (by decide), fun q => absurd h q⟩
  · rw [vB_f h]; exact ⟨fun _ => h, fun _ => rfl⟩
/-- an index that was looked at -/
theorem ix_in {x : Int32} {n : Nat} (h1 : ¬ x < 0) (h2 : ¬ nI n ≤ x) (hn : n < 2 ^ 31) : vp_in x n := by
  rcases pk_ix x hn with h | h | ⟨j, hj, rfl⟩
  · exact absurd h h1
  · exact absurd h h2
  · exact vp_in_nI hj hn
