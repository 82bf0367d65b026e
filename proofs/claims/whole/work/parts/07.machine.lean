theorem mj_dc_at {bytes : ByteArray} : ∀ {K : List (Option Instr)} {pc0 pc : Nat} {ins : Instr}, mj_dc bytes pc0 K = true → mj_ld K pc = some ins → ∃ len, decode bytes (pc0 + pc) = .ok (ins, len) ∧ (mj_len ins = 0 ∨ len = mj_len ins)
  | [], pc0, pc, ins, h, h1 => by cases h1
  | o :: t, pc0, 0, ins, h, h1 => by
    simp only [mj_dc, Bool.and_eq_true] at h
    have h2 := h.1
    have h1' : o = some ins := h1
    subst h1'
    unfold mj_dc1 at h2
    dsimp only at h2
    cases hq : decode bytes pc0 with
    | error e => rw [hq] at h2; cases h2
    | ok q =>
      rw [hq] at h2
      simp only [Bool.and_eq_true, decide_eq_true_eq, Bool.or_eq_true] at h2
      refine ⟨q.2, ?_, ?_⟩
      · rw [← h2.1]
      · rcases h2.2 with r | r
        · exact Or.inl (Nat.eq_of_beq_eq_true r)
        · exact Or.inr (Nat.eq_of_beq_eq_true r)
  | o :: t, pc0, pc + 1, ins, h, h1 => by
    simp only [mj_dc, Bool.and_eq_true] at h
    obtain ⟨len, a, b⟩ := mj_dc_at (pc0 := pc0 + 1) (pc := pc) h.2 h1
    exact ⟨len, by rwa [show pc0 + (pc + 1) = pc0 + 1 + pc by omega], b⟩
/-! A small machine of our own over abstract cells: references are places in a list of cells (place 0: the script) -/
abbrev mj_E : Type := (Nat × Nat × ((Nat → Int32) ⊕ (Nat → Int64))) ⊕ (Nat × List Value)
abbrev mj_H : Type := List mj_E
abbrev mj_S : Type := Nat × List (Option Value) × List Value × mj_H
abbrev mj_K : Type := List (Option Instr)
abbrev mj_O : Type := Option (Option Prop × mj_S)
def mj_kc (n : Int) : Int32 := match n with
  | .ofNat k => nI k
  | .negSucc k => -(nI (k + 1))
def mj_j (pc : Nat) (off : Int) : Option Nat := match off with
  | .ofNat n => some (pc + n)
  | .negSucc n => cond (Nat.ble (n + 1) pc) (some (pc - (n + 1))) none
def mj_cc (c : ClassFile.Cond) (x y : Int32) : Bool := match c with
  | .eq => decide (x = y)
  | .ne => decide (¬ x = y)
  | .lt => decide (x < y)
  | .ge => decide (y ≤ x)
  | .gt => decide (y < x)
  | .le => decide (x ≤ y)
def mj_cat : List Value → Nat
  | [] => 0
  | v :: r => v.category + mj_cat r
/-- a long that stands just ahead of a place loses its second half when the place is written -/
def mj_cl (ls : List (Option Value)) : Nat → List (Option Value)
  | 0 => ls
  | j + 1 => match mj_ld ls j with
    | some (.long _) => ls.set j none
    | some (.double _) => ls.set j none
    | _ => ls
def mj_st1 (ls : List (Option Value)) (i : Nat) (v : Value) : Option (List (Option Value)) := cond (Nat.blt i ls.length) (some ((mj_cl ls i).set i (some v))) none
def mj_st2 (ls : List (Option Value)) (i : Nat) (v : Value) : Option (List (Option Value)) := cond (Nat.blt (i + 1) ls.length) (some (((mj_cl ls i).set i (some v)).set (i + 1) none)) none
def mj_fit : Nat → Value → Bool
  | 0, .int _ => true
  | 1, .ref _ => true
  | _, _ => false
def f_ishl (x y : Int32) : Int32 := x <<< (y &&& 31)
def f_ishr (x y : Int32) : Int32 := x >>> (y &&& 31)
def f_irem (x y : Int32) : Int32 := x - x / y * y
def f_lrem (x y : Int64) : Int64 := x - x / y * y
def f_lshl (x : Int64) (y : Int32) : Int64 := x <<< (y.toInt64 &&& 63)
def f_lshr (x : Int64) (y : Int32) : Int64 := x >>> (y.toInt64 &&& 63)
/-- a list's spine, laid open -/
def mj_fo {α β : Type} : List α → (List α → β) → β
  | [], k => k []
  | a :: t, k => mj_fo t (fun t' => k (a :: t'))
theorem mj_fo_eq {α β : Type} : ∀ (l : List α) (k : List α → β), mj_fo l k = k l
  | [], k => rfl
  | a :: t, k => mj_fo_eq t (fun t' => k (a :: t'))
section MJ
variable (pc : Nat) (ls : List (Option Value)) (st : List Value) (h : mj_H)
def mj_push (n : Nat) (v : Value) : mj_O := some (none, (pc + n, ls, v :: st, h))
def mj_b32 (f : Int32 → Int32 → Int32) : mj_O := match st with
  | .int y :: .int x :: r => some (none, (pc + 1, ls, .int (f x y) :: r, h))
  | _ => none
def mj_d32 (f : Int32 → Int32 → Int32) : mj_O := match st with
  | .int y :: .int x :: r => some (some (¬ y = 0), (pc + 1, ls, .int (f x y) :: r, h))
  | _ => none
def mj_b64 (f : Int64 → Int64 → Int64) : mj_O := match st with
  | .long y :: .long x :: r => some (none, (pc + 1, ls, .long (f x y) :: r, h))
  | _ => none
def mj_d64 (f : Int64 → Int64 → Int64) : mj_O := match st with
  | .long y :: .long x :: r => some (some (¬ y = 0), (pc + 1, ls, .long (f x y) :: r, h))
  | _ => none
def mj_s64 (f : Int64 → Int32 → Int64) : mj_O := match st with
  | .int y :: .long x :: r => some (none, (pc + 1, ls, .long (f x y) :: r, h))
  | _ => none
def mj_u32 (f : Int32 → Value) : mj_O := match st with
  | .int x :: r => some (none, (pc + 1, ls, f x :: r, h))
  | _ => none
def mj_u64 (f : Int64 → Value) : mj_O := match st with
  | .long x :: r => some (none, (pc + 1, ls, f x :: r, h))
  | _ => none
def mj_i2l : mj_O := match st with
  | .int x :: r => some (none, (pc + 1, ls, .long x.toInt64 :: r, h))
  | _ => none
def mj_l2i : mj_O := match st with
  | .long x :: r => some (none, (pc + 1, ls, .int x.toInt32 :: r, h))
  | _ => none
def mj_i2b : mj_O := match st with
  | .int x :: r => some (none, (pc + 1, ls, .int x.toInt8.toInt32 :: r, h))
  | _ => none
def mj_i2s : mj_O := match st with
  | .int x :: r => some (none, (pc + 1, ls, .int x.toInt16.toInt32 :: r, h))
  | _ => none
def mj_lcmp : mj_O := match st with
  | .long y :: .long x :: r => some (none, (pc + 1, ls, .int (lg_cmp x y) :: r, h))
  | _ => none
def mj_lodi (n i : Nat) : mj_O := match mj_ld ls i with
  | some (.int x) => some (none, (pc + n, ls, .int x :: st, h))
  | _ => none
def mj_lodl (n i : Nat) : mj_O := match mj_ld ls i with
  | some (.long x) => some (none, (pc + n, ls, .long x :: st, h))
  | _ => none
def mj_loda (n i : Nat) : mj_O := match mj_ld ls i with
  | some (.ref x) => some (none, (pc + n, ls, .ref x :: st, h))
  | _ => none
def mj_stoi (n i : Nat) : mj_O := match st with
  | .int x :: r => match mj_st1 ls i (.int x) with
    | some ls' => some (none, (pc + n, ls', r, h))
    | none => none
  | _ => none
def mj_stol (n i : Nat) : mj_O := match st with
  | .long x :: r => match mj_st2 ls i (.long x) with
    | some ls' => some (none, (pc + n, ls', r, h))
    | none => none
  | _ => none
def mj_stoa (n i : Nat) : mj_O := match st with
  | .ref x :: r => match mj_st1 ls i (.ref x) with
    | some ls' => some (none, (pc + n, ls', r, h))
    | none => none
  | _ => none
def mj_inc (i : Nat) (k : Int) : mj_O := match mj_ld ls i with
  | some (.int x) => cond (decide (Int32.ofInt k = mj_kc k)) (match mj_st1 ls i (.int (x + mj_kc k)) with
    | some ls' => some (none, (pc + 3, ls', st, h))
    | none => none) none
  | _ => none
def mj_if1 (c : ClassFile.Cond) (off : Int) : mj_O := match st with
  | .int x :: r => match mj_j pc off with
    | some t => some (none, (cond (mj_cc c x 0) t (pc + 3), ls, r, h))
    | none => none
  | _ => none
def mj_if2 (c : ClassFile.Cond) (off : Int) : mj_O := match st with
  | .int y :: .int x :: r => match mj_j pc off with
    | some t => some (none, (cond (mj_cc c x y) t (pc + 3), ls, r, h))
    | none => none
  | _ => none
def mj_goto (off : Int) : mj_O := match mj_j pc off with
  | some t => some (none, (t, ls, st, h))
  | none => none
def mj_ldc (own idx n : Nat) : mj_O := match mj_lk (mj_row mj_ldcT own) idx with
  | some (v, _) => some (none, (pc + n, ls, .int v :: st, h))
  | none => none
def mj_ldc2 (own idx : Nat) : mj_O := match mj_lk (mj_row mj_ldlT own) idx with
  | some (v, _) => some (none, (pc + 3, ls, .long v :: st, h))
  | none => none
def mj_dup : mj_O := match st with
  | v :: r => cond (Nat.beq v.category 1) (some (none, (pc + 1, ls, v :: v :: r, h))) none
  | _ => none
def mj_dup2 : mj_O := match st with
  | v :: w :: r => cond (Nat.beq v.category 1 && Nat.beq w.category 1) (some (none, (pc + 1, ls, v :: w :: v :: w :: r, h))) none
  | _ => none
def mj_getf (own idx : Nat) : mj_O := match st with
  | .ref a :: r => match mj_lk (mj_row mj_fldT own) idx with
    | some (ci, k, _, _, _) => match mj_nth h a with
      | some (.inr (c, fs)) => cond (Nat.beq c ci) (match mj_nth fs k with
        | some v => some (none, (pc + 3, ls, v :: r, h))
        | none => none) none
      | _ => none
    | none => none
  | _ => none
def mj_putf (own : Nat) (ini : Bool) (idx : Nat) : mj_O := match st with
  | v :: .ref a :: r => match mj_lk (mj_row mj_fldT own) idx with
    | some (ci, k, tg, fin, _) => match mj_nth h a with
      | some (.inr (c, fs)) => cond (Nat.beq c ci && ((!fin || (ini && Nat.beq ci own)) && (mj_fit tg v && Nat.blt k fs.length))) (some (none, (pc + 3, ls, r, h.set a (.inr (c, fs.set k v))))) none
      | _ => none
    | none => none
  | _ => none
def mj_alen : mj_O := match st with
  | .ref a :: r => match mj_nth h a with
    | some (.inl (t, n, _)) => cond (Nat.blt t 4 || (Nat.beq t 9 && Nat.beq a 0)) (some (none, (pc + 1, ls, .int (Int32.ofNat n) :: r, h))) none
    | _ => none
  | _ => none
def mj_iald : mj_O := match st with
  | .int i :: .ref a :: r => match mj_nth h a with
    | some (.inl (t, n, .inl f)) => cond (Nat.beq t 0 || (Nat.beq t 9 && Nat.beq a 0)) (some (some (vp_in i n), (pc + 1, ls, .int (f i.toNatClampNeg) :: r, h))) none
    | _ => none
  | _ => none
def mj_bald : mj_O := match st with
  | .int i :: .ref a :: r => match mj_nth h a with
    | some (.inl (t, n, .inl f)) => cond (Nat.beq t 1 || Nat.beq t 2) (some (some (vp_in i n), (pc + 1, ls, .int (f i.toNatClampNeg) :: r, h))) none
    | _ => none
  | _ => none
def mj_lald : mj_O := match st with
  | .int i :: .ref a :: r => match mj_nth h a with
    | some (.inl (t, n, .inr f)) => cond (Nat.beq t 3) (some (some (vp_in i n), (pc + 1, ls, .long (f i.toNatClampNeg) :: r, h))) none
    | _ => none
  | _ => none
def mj_iast : mj_O := match st with
  | .int x :: .int i :: .ref a :: r => match mj_nth h a with
    | some (.inl (t, n, .inl f)) => cond (Nat.beq t 0) (some (some (vp_in i n), (pc + 1, ls, r, h.set a (.inl (t, n, .inl (upd f i.toNatClampNeg x)))))) none
    | _ => none
  | _ => none
def mj_bast : mj_O := match st with
  | .int x :: .int i :: .ref a :: r => match mj_nth h a with
    | some (.inl (1, n, .inl f)) => some (some (vp_in i n), (pc + 1, ls, r, h.set a (.inl (1, n, .inl (upd f i.toNatClampNeg x.toInt8.toInt32)))))
    | some (.inl (2, n, .inl f)) => some (some (vp_in i n), (pc + 1, ls, r, h.set a (.inl (2, n, .inl (upd f i.toNatClampNeg (vp_nar .boolean x))))))
    | _ => none
  | _ => none
def mj_last : mj_O := match st with
  | .long x :: .int i :: .ref a :: r => match mj_nth h a with
    | some (.inl (t, n, .inr f)) => cond (Nat.beq t 3) (some (some (vp_in i n), (pc + 1, ls, r, h.set a (.inl (t, n, .inr (vp_updL f i.toNatClampNeg x)))))) none
    | _ => none
  | _ => none
def mj_newa (t : Nat) (f : (Nat → Int32) ⊕ (Nat → Int64)) : mj_O := match st with
  | .int n :: r => some (some (¬ n < 0 ∧ n.toNatClampNeg ≤ 5000), (pc + 2, ls, .ref h.length :: r, h ++ [.inl (t, n.toNatClampNeg, f)]))
  | _ => none
def mj_newo (own idx : Nat) : mj_O := match mj_lk (mj_row mj_newT own) idx with
  | some (ci, _) => some (none, (pc + 3, ls, .ref h.length :: st, h ++ [.inr (ci, mj_row mj_dfT ci)]))
  | none => none
def mj_obj (own idx : Nat) : mj_O := match st with
  | .ref _ :: r => match mj_lk (mj_row mj_objT own) idx with
    | some _ => cond (Nat.ble (mj_cat r) 8) (some (none, (pc + 3, ls, r, h))) none
    | none => none
  | _ => none
def mj_acp (own idx : Nat) : mj_O := match st with
  | .int n :: .int dp :: .ref a1 :: .int sp :: .ref a0 :: r => match mj_lk (mj_row mj_acpT own) idx with
    | some _ => match mj_nth h a0, mj_nth h a1 with
      | some (.inl (t0, n0, .inl f)), some (.inl (t1, n1, .inl g)) => cond (Nat.beq t0 0 && (Nat.beq t1 0 && Nat.ble (mj_cat r) 8))
          (some (some (¬ sp < 0 ∧ ¬ dp < 0 ∧ ¬ n < 0 ∧ sp.toNatClampNeg + n.toNatClampNeg ≤ n0 ∧ dp.toNatClampNeg + n.toNatClampNeg ≤ n1), (pc + 3, ls, r, h.set a1 (.inl (t1, n1, .inl (va_cpy f g sp.toNatClampNeg dp.toNatClampNeg n.toNatClampNeg)))))) none
      | _, _ => none
    | none => none
  | _ => none
def mj_stat (own idx : Nat) : mj_O := match mj_lk (mj_row mj_maxT own) idx with
  | some _ => match st with
    | .int y :: .int x :: r => cond (Nat.ble (mj_cat r) 8) (some (none, (pc + 3, ls, .int (if x < y then y else x) :: r, h))) none
    | _ => none
  | none => mj_acp pc ls st h own idx
/-- one instruction that calls no method of ours and isn't a switch: what must hold, the state behind it -/
def mj_ex (own : Nat) (ini : Bool) (ins : Instr) : mj_O := match ins with
  | .iconst n => cond (decide (Int32.ofInt n = mj_kc n)) (mj_push pc ls st h 1 (.int (mj_kc n))) none
  | .bipush n => cond (decide ((Int8.ofInt n).toInt32 = mj_kc n)) (mj_push pc ls st h 2 (.int (mj_kc n))) none
  | .sipush n => cond (decide ((Int16.ofInt n).toInt32 = mj_kc n)) (mj_push pc ls st h 3 (.int (mj_kc n))) none
  | .lconst n => mj_push pc ls st h 1 (.long (Int64.ofNat (n : Nat)))
  | .ldc i => mj_ldc pc ls st h own i 2
  | .ldc_w i => mj_ldc pc ls st h own i 3
  | .ldc2_w i => mj_ldc2 pc ls st h own i
  | .iload_n k => mj_lodi pc ls st h 1 (k : Nat)
  | .iload i => mj_lodi pc ls st h 2 i
  | .lload_n k => mj_lodl pc ls st h 1 (k : Nat)
  | .lload i => mj_lodl pc ls st h 2 i
  | .aload_n k => mj_loda pc ls st h 1 (k : Nat)
  | .aload i => mj_loda pc ls st h 2 i
  | .istore_n k => mj_stoi pc ls st h 1 (k : Nat)
  | .istore i => mj_stoi pc ls st h 2 i
  | .lstore_n k => mj_stol pc ls st h 1 (k : Nat)
  | .lstore i => mj_stol pc ls st h 2 i
  | .astore_n k => mj_stoa pc ls st h 1 (k : Nat)
  | .astore i => mj_stoa pc ls st h 2 i
  | .iinc i k => mj_inc pc ls st h i k
  | .iadd => mj_b32 pc ls st h HAdd.hAdd
  | .isub => mj_b32 pc ls st h HSub.hSub
  | .imul => mj_b32 pc ls st h HMul.hMul
  | .iand => mj_b32 pc ls st h HAnd.hAnd
  | .ior => mj_b32 pc ls st h HOr.hOr
  | .ishl => mj_b32 pc ls st h f_ishl
  | .ishr => mj_b32 pc ls st h f_ishr
  | .idiv => mj_d32 pc ls st h HDiv.hDiv
  | .irem => mj_d32 pc ls st h f_irem
  | .ladd => mj_b64 pc ls st h HAdd.hAdd
  | .lsub => mj_b64 pc ls st h HSub.hSub
  | .lmul => mj_b64 pc ls st h HMul.hMul
  | .land => mj_b64 pc ls st h HAnd.hAnd
  | .lor => mj_b64 pc ls st h HOr.hOr
  | .lrem => mj_d64 pc ls st h f_lrem
  | .lshl => mj_s64 pc ls st h f_lshl
  | .lshr => mj_s64 pc ls st h f_lshr
  | .lcmp => mj_lcmp pc ls st h
  | .i2l => mj_i2l pc ls st h
  | .l2i => mj_l2i pc ls st h
  | .i2b => mj_i2b pc ls st h
  | .i2s => mj_i2s pc ls st h
  | .dup => mj_dup pc ls st h
  | .dup2 => mj_dup2 pc ls st h
  | .ifCond c off => mj_if1 pc ls st h c off
  | .if_icmp c off => mj_if2 pc ls st h c off
  | .goto off => mj_goto pc ls st h off
  | .getfield i => mj_getf pc ls st h own i
  | .putfield i => mj_putf pc ls st h own ini i
  | .arraylength => mj_alen pc ls st h
  | .iaload => mj_iald pc ls st h
  | .baload => mj_bald pc ls st h
  | .laload => mj_lald pc ls st h
  | .iastore => mj_iast pc ls st h
  | .bastore => mj_bast pc ls st h
  | .lastore => mj_last pc ls st h
  | .newarray .int => mj_newa pc ls st h 0 (.inl (fun _ => 0))
  | .newarray .byte => mj_newa pc ls st h 1 (.inl (fun _ => 0))
  | .newarray .boolean => mj_newa pc ls st h 2 (.inl (fun _ => 0))
  | .newarray .long => mj_newa pc ls st h 3 (.inr (fun _ => 0))
  | .new i => mj_newo pc ls st h own i
  | .invokespecial i => mj_obj pc ls st h own i
  | .invokestatic i => mj_stat pc ls st h own i
  | _ => none
end MJ
/-- where a switch goes -/
def mj_sw (ins : Instr) (pc : Nat) (x : Int32) (t : Nat) : Prop := match ins with
  | .tableswitch dflt lo hi offs => ((x.toInt < lo ∨ hi < x.toInt) ∧ (pc : Int) + dflt = (t : Int)) ∨ (¬ x.toInt < lo ∧ ¬ hi < x.toInt ∧ ∃ off, offs[(x.toInt - lo).toNat]? = some off ∧ (pc : Int) + off = (t : Int))
  | .lookupswitch dflt ps => (ps.toList.zip (ps.toList.drop 1)).all (fun (a, next) => a.1 < next.1) = true ∧ (pc : Int) + Op.lookupswitch.offset ps.toList dflt x.toInt = (t : Int)
  | _ => False
def mj_ok (o : Option Prop) : Prop := match o with
  | none => True
  | some p => p
abbrev mj_Cl : Type := Nat → List Value → mj_H → Option Value → mj_H → Prop
/-- what stands below the receiver's class: a virtual call's first argument is a cell of that class -/
def mj_rcv (h : mj_H) (y : Nat) (av : List Value) : Prop := ∃ a fs t e, av = .ref a :: t ∧ mj_nth mj_tab y = some e ∧ mj_nth h a = some (.inr (e.1, fs))
def mj_cas (C : mj_Cl) (own : Nat) (ins : Instr) (pc : Nat) (ls : List (Option Value)) (st : List Value) (h : mj_H) (S' : mj_S) : Prop :=
  ∃ idx kd y n pp av rest r h', mj_lk (mj_row mj_calT own) idx = some (kd, y, n, pp) ∧ st = av.reverse ++ rest ∧ mj_cat rest ≤ 8 ∧ C y av h r h' ∧ S' = (pc + 3, ls, r.toList ++ rest, h') ∧
    ((ins = .invokestatic idx ∧ kd = 0 ∧ av.length = n) ∨ (ins = .invokevirtual idx ∧ kd = 1 ∧ av.length = n + 1 ∧ mj_rcv h y av) ∨ (ins = .invokespecial idx ∧ (kd = 2 ∨ kd = 3) ∧ av.length = n + 1 ∧ ∃ a t, av = .ref a :: t))
def mj_step (C : mj_Cl) (own : Nat) (ini : Bool) (K : mj_K) (S S' : mj_S) : Prop :=
  ∃ ins, mj_ld K S.1 = some ins ∧ ((∃ o, mj_ex S.1 S.2.1 S.2.2.1 S.2.2.2 own ini ins = some (o, S') ∧ mj_ok o) ∨ (∃ x r t, S.2.2.1 = .int x :: r ∧ mj_sw ins S.1 x t ∧ S' = (t, S.2.1, r, S.2.2.2)) ∨ mj_cas C own ins S.1 S.2.1 S.2.2.1 S.2.2.2 S')
/-- a method's end -/
def mj_rt (ret : Option FieldType) (ins : Instr) (st : List Value) : Option (Option Prop × Option Value) := match ins, st, ret with
  | .ireturn, [.int v], some .int => some (none, some (.int v))
  | .ireturn, [.int v], some .boolean => some (some (v = 0 ∨ v = 1), some (.int v))
  | .lreturn, [.long v], some .long => some (none, some (.long v))
  | .return_, [], none => some (none, none)
  | _, _, _ => none
def mj_N (C : mj_Cl) (own : Nat) (ini : Bool) (ret : Option FieldType) (K : mj_K) : Nat → mj_S → Option Value → mj_H → Prop
  | 0, S, r, h' => ∃ ins o, mj_ld K S.1 = some ins ∧ mj_rt ret ins S.2.2.1 = some (o, r) ∧ mj_ok o ∧ h' = S.2.2.2
  | n + 1, S, r, h' => ∃ S', mj_step C own ini K S S' ∧ mj_N C own ini ret K n S' r h'
def mj_argl : List Value → List (Option Value)
  | [] => []
  | v :: vs => cond (Nat.beq v.category 2) (some v :: none :: mj_argl vs) (some v :: mj_argl vs)
def mj_pad (l : List (Option Value)) : Nat → List (Option Value)
  | 0 => []
  | n + 1 => match l with
    | [] => none :: mj_pad [] n
    | a :: t => a :: mj_pad t n
/-- the calls that come back within depth d -/
def mj_C : Nat → mj_Cl
  | 0 => fun _ _ _ _ _ => False
  | d + 1 => fun y av h r h' => ∃ own maxL ini ret K n, mj_nth mj_tab y = some (own, maxL, ini, ret, K) ∧ (mj_argl av).length ≤ maxL ∧ mj_N (mj_C d) own ini ret K n (0, mj_pad (mj_argl av) maxL, [], h) r h'
/-- a run from a state to the method's end -/
def mj_R (C : mj_Cl) (own : Nat) (ini : Bool) (ret : Option FieldType) (K : mj_K) (S : mj_S) (Q : Option Value → mj_H → Prop) : Prop := ∃ n r h', mj_N C own ini ret K n S r h' ∧ Q r h'
def mj_isb : Instr → Bool
  | .ifCond _ _ | .if_icmp _ _ => true
  | _ => false
def mj_and (a o : Option Prop) : Option Prop := match o with
  | none => a
  | some p => match a with
    | none => some p
    | some q => some (q ∧ p)
theorem mj_and_ok {a o : Option Prop} (h : mj_ok (mj_and a o)) : mj_ok a ∧ mj_ok o := by
  cases o with
  | none => exact ⟨h, trivial⟩
  | some p => cases a with
    | none => exact ⟨trivial, h⟩
    | some q => exact h
/-- a stretch of instructions, as far as it goes without a branch that is open, a call, a switch, an end -/
def mj_go (own : Nat) (ini : Bool) (K : mj_K) : Nat → Nat → List (Option Value) → List Value → mj_H → Option Prop → Option Prop × mj_S
  | 0, pc, ls, st, h, a => (a, (pc, ls, st, h))
  | n + 1, pc, ls, st, h, a => match mj_ld K pc with
    | none => (a, (pc, ls, st, h))
    | some ins => match mj_ex pc ls st h own ini ins with
      | none => (a, (pc, ls, st, h))
      | some (o, (pc', ls', st', h')) => mj_fo ls' fun ls' => mj_fo st' fun st' => cond (mj_isb ins) (mj_and a o, (pc', ls', st', h')) (mj_go own ini K n pc' ls' st' h' (mj_and a o))
section RR
variable {C : mj_Cl} {own : Nat} {ini : Bool} {ret : Option FieldType} {K : mj_K} {Q : Option Value → mj_H → Prop}
theorem mj_R.step {S S' : mj_S} (hs : mj_step C own ini K S S') (k : mj_R C own ini ret K S' Q) : mj_R C own ini ret K S Q := by
  obtain ⟨n, r, h', hn, hq⟩ := k
  exact ⟨n + 1, r, h', ⟨S', hs, hn⟩, hq⟩
theorem mj_go_sound : ∀ (n : Nat) (pc : Nat) (ls : List (Option Value)) (st : List Value) (h : mj_H) (S' : mj_S) (a o : Option Prop), mj_go own ini K n pc ls st h a = (o, S') → mj_ok o → mj_R C own ini ret K S' Q → mj_ok a ∧ mj_R C own ini ret K (pc, ls, st, h) Q
  | 0, pc, ls, st, hh, S', a, o, h, ho, k => by
    cases h
    exact ⟨ho, k⟩
  | n + 1, pc, ls, st, hh, S', a, o, h, ho, k => by
    rw [mj_go] at h
    cases h1 : mj_ld K pc with
    | none => rw [h1] at h; cases h; exact ⟨ho, k⟩
    | some ins =>
      rw [h1] at h
      dsimp only at h
      cases h2 : mj_ex pc ls st hh own ini ins with
      | none => rw [h2] at h; cases h; exact ⟨ho, k⟩
      | some q =>
        obtain ⟨o1, pc1, ls1, st1, hh1⟩ := q
        rw [h2] at h
        dsimp only at h
        rw [mj_fo_eq, mj_fo_eq] at h
        have h4 : mj_ok (mj_and a o1) ∧ mj_R C own ini ret K (pc1, ls1, st1, hh1) Q := by
          cases h5 : mj_isb ins with
          | true => rw [h5] at h; cases h; exact ⟨ho, k⟩
          | false => rw [h5] at h; exact mj_go_sound n pc1 ls1 st1 hh1 S' _ o h ho k
        obtain ⟨h6, h7⟩ := h4
        obtain ⟨h8, h9⟩ := mj_and_ok h6
        exact ⟨h8, mj_R.step ⟨ins, h1, Or.inl ⟨o1, h2, h9⟩⟩ h7⟩
/-- a stretch with nothing to show -/
theorem mj_b0 (n : Nat) {pc : Nat} {ls : List (Option Value)} {st : List Value} {hh : mj_H} {S' : mj_S} (h : mj_go own ini K n pc ls st hh none = (none, S')) (k : mj_R C own ini ret K S' Q) : mj_R C own ini ret K (pc, ls, st, hh) Q := (mj_go_sound n pc ls st hh S' none none h trivial k).2
/-- a stretch, and what must hold on it -/
theorem mj_b1 (n : Nat) {pc : Nat} {ls : List (Option Value)} {st : List Value} {hh : mj_H} {S' : mj_S} {p : Prop} (h : mj_go own ini K n pc ls st hh none = (some p, S')) (hp : p) (k : mj_R C own ini ret K S' Q) : mj_R C own ini ret K (pc, ls, st, hh) Q := (mj_go_sound n pc ls st hh S' none (some p) h hp k).2
/-- a branch -/
theorem mj_br {p : Prop} [Decidable p] {t f : Nat} {ls : List (Option Value)} {st : List Value} {h : mj_H} (kt : p → mj_R C own ini ret K (t, ls, st, h) Q) (kf : ¬ p → mj_R C own ini ret K (f, ls, st, h) Q) : mj_R C own ini ret K (cond (decide p) t f, ls, st, h) Q := by
  by_cases hp : p
  · have e : decide p = true := decide_eq_true hp
    rw [e]
    exact kt hp
  · have e : decide p = false := decide_eq_false hp
    rw [e]
    exact kf hp
/-- a branch whose way is known -/
theorem mj_brt {p : Prop} [Decidable p] {t f : Nat} {ls : List (Option Value)} {st : List Value} {h : mj_H} (hp : p) (kt : mj_R C own ini ret K (t, ls, st, h) Q) : mj_R C own ini ret K (cond (decide p) t f, ls, st, h) Q := mj_br (fun _ => kt) (fun n => absurd hp n)
theorem mj_brf {p : Prop} [Decidable p] {t f : Nat} {ls : List (Option Value)} {st : List Value} {h : mj_H} (hp : ¬ p) (kf : mj_R C own ini ret K (f, ls, st, h) Q) : mj_R C own ini ret K (cond (decide p) t f, ls, st, h) Q := mj_br (fun n => absurd n hp) (fun _ => kf)
/-- the end -/
theorem mj_end {S : mj_S} {ins : Instr} {o : Option Prop} {r : Option Value} (h1 : mj_ld K S.1 = some ins) (h2 : mj_rt ret ins S.2.2.1 = some (o, r)) (ho : mj_ok o) (hq : Q r S.2.2.2) : mj_R C own ini ret K S Q := ⟨0, r, S.2.2.2, ⟨ins, o, h1, h2, ho, rfl⟩, hq⟩
/-- calls -/
theorem mj_callS {pc : Nat} {ls : List (Option Value)} {st : List Value} {h h' : mj_H} {r : Option Value} {idx y n : Nat} {pp : Nat × Nat × Nat × Nat} (av rest : List Value) (h1 : mj_ld K pc = some (.invokestatic idx)) (h2 : mj_lk (mj_row mj_calT own) idx = some (0, y, n, pp)) (h3 : st = av.reverse ++ rest) (h4 : Nat.ble (mj_cat rest) 8 = true) (h5 : av.length = n) (hc : C y av h r h') (k : mj_R C own ini ret K (pc + 3, ls, r.toList ++ rest, h') Q) : mj_R C own ini ret K (pc, ls, st, h) Q :=
  mj_R.step ⟨_, h1, Or.inr (Or.inr ⟨idx, 0, y, n, pp, av, rest, r, h', h2, h3, Nat.le_of_ble_eq_true h4, hc, rfl, Or.inl ⟨rfl, rfl, h5⟩⟩)⟩ k
theorem mj_callV {pc : Nat} {ls : List (Option Value)} {st : List Value} {h h' : mj_H} {r : Option Value} {idx y n a : Nat} {pp : Nat × Nat × Nat × Nat} {fs : List Value} {e : Nat × Nat × Bool × Option FieldType × List (Option Instr)} (av rest : List Value) (h1 : mj_ld K pc = some (.invokevirtual idx)) (h2 : mj_lk (mj_row mj_calT own) idx = some (1, y, n, pp)) (h3 : st = (Value.ref a :: av).reverse ++ rest) (h4 : Nat.ble (mj_cat rest) 8 = true) (h5 : av.length = n) (h6 : mj_nth mj_tab y = some e) (h7 : mj_nth h a = some (.inr (e.1, fs))) (hc : C y (.ref a :: av) h r h') (k : mj_R C own ini ret K (pc + 3, ls, r.toList ++ rest, h') Q) : mj_R C own ini ret K (pc, ls, st, h) Q :=
  mj_R.step ⟨_, h1, Or.inr (Or.inr ⟨idx, 1, y, n, pp, .ref a :: av, rest, r, h', h2, h3, Nat.le_of_ble_eq_true h4, hc, rfl, Or.inr (Or.inl ⟨rfl, rfl, by rw [List.length_cons, h5], a, fs, av, e, rfl, h6, h7⟩)⟩)⟩ k
theorem mj_callI {pc : Nat} {ls : List (Option Value)} {st : List Value} {h h' : mj_H} {r : Option Value} {idx kd y n a : Nat} {pp : Nat × Nat × Nat × Nat} (av rest : List Value) (h1 : mj_ld K pc = some (.invokespecial idx)) (h2 : mj_lk (mj_row mj_calT own) idx = some (kd, y, n, pp)) (h2' : kd = 2 ∨ kd = 3) (h3 : st = (Value.ref a :: av).reverse ++ rest) (h4 : Nat.ble (mj_cat rest) 8 = true) (h5 : av.length = n) (hc : C y (.ref a :: av) h r h') (k : mj_R C own ini ret K (pc + 3, ls, r.toList ++ rest, h') Q) : mj_R C own ini ret K (pc, ls, st, h) Q :=
  mj_R.step ⟨_, h1, Or.inr (Or.inr ⟨idx, kd, y, n, pp, .ref a :: av, rest, r, h', h2, h3, Nat.le_of_ble_eq_true h4, hc, rfl, Or.inr (Or.inr ⟨rfl, h2', by rw [List.length_cons, h5], a, av, rfl⟩)⟩)⟩ k
/-- a switch -/
theorem mj_swt {pc t : Nat} {ls : List (Option Value)} {rest : List Value} {h : mj_H} {x : Int32} {ins : Instr} (h1 : mj_ld K pc = some ins) (h2 : mj_sw ins pc x t) (k : mj_R C own ini ret K (t, ls, rest, h) Q) : mj_R C own ini ret K (pc, ls, .int x :: rest, h) Q :=
  mj_R.step ⟨ins, h1, Or.inr (Or.inl ⟨x, rest, t, rfl, h2, rfl⟩)⟩ k
/-- a method's contract out of a run from its entry -/
theorem mj_C.of {d y maxL : Nat} {av : List Value} {h h' : mj_H} {r : Option Value} (h1 : mj_nth mj_tab y = some (own, maxL, ini, ret, K)) (h2 : Nat.ble (mj_argl av).length maxL = true) {ls0 : List (Option Value)} (h3 : mj_pad (mj_argl av) maxL = ls0) (k : mj_R (mj_C d) own ini ret K (0, ls0, [], h) (fun r2 h2 => r2 = r ∧ h2 = h')) : mj_C (d + 1) y av h r h' := by
  subst h3
  obtain ⟨n, r2, h2', hn, e1, e2⟩ := k
  subst e1; subst e2
  exact ⟨own, maxL, ini, ret, K, n, h1, Nat.le_of_ble_eq_true h2, hn⟩
end RR
