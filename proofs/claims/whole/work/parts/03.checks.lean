/-! the tables hold what the Statement's words say: by the kernel -/
def mj_T : List Cond := lw_tbl.filter goodWord
def mj_isw (i : Nat) (w : Cond) : Bool := decide (lw_tbl[i]? = some w) && goodWord w
theorem mj_isw_mem {i : Nat} {w : Cond} (h : mj_isw i w = true) : w ∈ mj_T := by
  simp only [mj_isw, Bool.and_eq_true, decide_eq_true_eq] at h
  exact List.mem_filter.mpr ⟨List.mem_of_getElem? h.1, h.2⟩
def mj_tgk (tg : Nat) (ty : Option FieldType) : Bool := match tg, ty with
  | 0, some .int => true
  | 1, some (.object _) => true
  | 1, some (.array _) => true
  | _, _ => false
def mj_kfld (own : Nat) (e : Nat × (Nat × Nat × Nat × Bool × Nat)) : Bool := match vwCl[e.2.1]? with
  | some q => decide (e.2.2.1 < q.2.2) && (decide ((q.2.1 e.2.2.1).1 = q.1) && (decide (q.1 = mj_nm e.2.1) && (decide ((q.2.1 e.2.2.1).2.2.2 = e.2.2.2.2.1) && (mj_isw e.2.2.2.2.2 (.fieldLink (mj_nm own) e.1 (q.2.1 e.2.2.1).1 (q.2.1 e.2.2.1).2.1 (q.2.1 e.2.2.1).2.2.1) && mj_tgk e.2.2.2.1 (parseFieldDescriptor (q.2.1 e.2.2.1).2.2.1)))))
  | none => false
set_option maxRecDepth 100000 in
theorem mj_kfld_ok : ((List.range 13).all fun o => (mj_row mj_fldT o).all (mj_kfld o)) = true := by decide +kernel
set_option maxRecDepth 100000 in
theorem mj_kldc_ok : ((List.range 13).all fun o => (mj_row mj_ldcT o).all (fun e => mj_isw e.2.2 (.constant (mj_nm o) e.1 e.2.1))) = true := by decide +kernel
set_option maxRecDepth 100000 in
theorem mj_kldl_ok : ((List.range 13).all fun o => (mj_row mj_ldlT o).all (fun e => mj_isw e.2.2 (.constantLong (mj_nm o) e.1 e.2.1))) = true := by decide +kernel
set_option maxRecDepth 100000 in
theorem mj_kcls_ok : ((List.range 10).all fun ci => match vwCl[ci]?, mj_nth mj_clP ci with
  | some q, some pp => (decide (pp.1.length = q.2.2) && ((u_ws q.1 q.2.1 q.2.2).zip pp.1).all (fun wp => mj_isw wp.2 wp.1)) && (mj_isw pp.2.1 (.instantiable q.1 q.2.2) && (mj_isw pp.2.2 (.initialized q.1) && (decide (q.1 = mj_nm ci) && (decide ((mj_row mj_dfT ci).length = q.2.2)))))
  | _, _ => false) = true := by decide +kernel
set_option maxRecDepth 100000 in
theorem mj_knew_ok : ((List.range 13).all fun o => (mj_row mj_newT o).all (fun e => decide (e.2.1 < 10) && mj_isw e.2.2 (.classLink (mj_nm o) e.1 (mj_nm e.2.1)))) = true := by decide +kernel
set_option maxRecDepth 100000 in
theorem mj_kobj_ok : ((List.range 13).all fun o => (mj_row mj_objT o).all (fun e => mj_isw e.2 (.methodLink (mj_nm o) e.1 objectInit))) = true := by decide +kernel
set_option maxRecDepth 100000 in
theorem mj_kobj2_ok : (mj_isw 84 (.instanceMethod objectInit) && mj_isw 85 (.code objectInit ⟨#[0xb1]⟩ 1 none)) = true := by decide +kernel
set_option maxRecDepth 100000 in
theorem mj_kacp_ok : ((List.range 13).all fun o => (mj_row mj_acpT o).all (fun e => mj_isw e.2 (.methodLink (mj_nm o) e.1 arraycopyName))) = true := by decide +kernel
set_option maxRecDepth 100000 in
theorem mj_kacp2_ok : (mj_isw 456 (.native arraycopyName) && (mj_isw 455 (.static arraycopyName) && mj_isw 76 (.initialized "java/lang/System"))) = true := by decide +kernel
set_option maxRecDepth 100000 in
theorem mj_karr_ok : (mj_isw 105 (.arrayClass .int) && (mj_isw 247 (.arrayClass .byte) && (mj_isw 1016 (.arrayClass .boolean) && mj_isw 1015 (.arrayClass .long)))) = true := by decide +kernel
/-! the calls and the methods -/
def mj_kcal (own : Nat) (e : Nat × (Nat × Nat × Nat × (Nat × Nat × Nat × Nat))) : Bool := match mj_nth mj_yb e.2.2.1, mj_nth mj_tab e.2.2.1 with
  | some q, some t => decide ((parseMethodDescriptor q.1.desc).map (fun d => d.parameters.length) = some e.2.2.2.1) && (mj_isw e.2.2.2.2.2.2.2 (.initialized q.1.cls) && (match e.2.1 with
    | 0 => mj_isw e.2.2.2.2.1 (.methodLink (mj_nm own) e.1 q.1) && mj_isw e.2.2.2.2.2.1 (.static q.1)
    | 1 => mj_isw e.2.2.2.2.1 (.methodLink (mj_nm own) e.1 q.1) && (mj_isw e.2.2.2.2.2.1 (.instanceMethod q.1) && (mj_isw e.2.2.2.2.2.2.1 (.selects q.1.cls q.1 q.1) && decide (t.1 < 10)))
    | 2 => mj_isw e.2.2.2.2.1 (.methodLink (mj_nm own) e.1 q.1) && (mj_isw e.2.2.2.2.2.1 (.instanceMethod q.1) && (decide (q.1.name = "<init>") && decide (t.2.2.2.1 = none)))
    | 3 => decide (Cond.methodLinkNest (mj_nm own) e.1 q.1 RX8 ∈ [Cond.methodLinkNest RX8 18 yX2_init RX8, Cond.methodLinkNest RX8 41 yX6_init RX8]) && (mj_isw e.2.2.2.2.2.1 (.instanceMethod q.1) && (decide (q.1.name = "<init>") && decide (t.2.2.2.1 = none)))
    | _ => false))
  | _, _ => false
set_option maxRecDepth 100000 in
theorem mj_kcal_all : ((List.range 13).all fun o => (mj_row mj_calT o).all (mj_kcal o)) = true := by decide +kernel
set_option maxRecDepth 100000 in
theorem mj_nest_ok : lw_tbl[108]? = some (Cond.methodLinkNest RX8 18 yX2_init RX8) ∧ lw_tbl[221]? = some (Cond.methodLinkNest RX8 41 yX6_init RX8) := by decide +kernel
set_option maxRecDepth 100000 in
theorem mj_kmax_ok : ((List.range 13).all fun o => (mj_row mj_maxT o).all (fun e => mj_isw e.2 (.methodLink (mj_nm o) e.1 Lib.Math.max.name))) = true := by decide +kernel
set_option maxRecDepth 100000 in
theorem mj_kmax2_ok : (mj_isw 620 (.static Lib.Math.max.name) && (mj_isw 77 (.initialized "java/lang/Math") && mj_isw 621 (.code Lib.Math.max.name Lib.Math.max.code 2 (some .int)))) = true := by decide +kernel
