/-! the tables hold what the Statement's words say: by the kernel -/
def mj_T : List Cond := lw_tbl.filter goodWord
def mj_isw (w : Cond) : Bool := decide (w ∈ lw_tbl) && goodWord w
theorem mj_isw_mem {w : Cond} (h : mj_isw w = true) : w ∈ mj_T := by
  simp only [mj_isw, Bool.and_eq_true, decide_eq_true_eq] at h
  exact List.mem_filter.mpr h
def mj_tgk (tg : Nat) (ty : Option FieldType) : Bool := match tg, ty with
  | 0, some .int => true
  | 1, some (.object _) => true
  | 1, some (.array _) => true
  | _, _ => false
def mj_kfld (own : Nat) (e : Nat × (Nat × Nat × Nat × Bool)) : Bool := match vwCl[e.2.1]? with
  | some q => decide (e.2.2.1 < q.2.2) && (decide ((q.2.1 e.2.2.1).1 = q.1) && (decide (q.1 = mj_nm e.2.1) && (decide ((q.2.1 e.2.2.1).2.2.2 = e.2.2.2.2) && (mj_isw (.fieldLink (mj_nm own) e.1 (q.2.1 e.2.2.1).1 (q.2.1 e.2.2.1).2.1 (q.2.1 e.2.2.1).2.2.1) && mj_tgk e.2.2.2.1 (parseFieldDescriptor (q.2.1 e.2.2.1).2.2.1)))))
  | none => false
set_option maxRecDepth 100000 in
theorem mj_kfld_ok : ((List.range 13).all fun o => (mj_row mj_fldT o).all (mj_kfld o)) = true := by decide +kernel
set_option maxRecDepth 100000 in
theorem mj_kldc_ok : ((List.range 13).all fun o => (mj_row mj_ldcT o).all (fun e => mj_isw (.constant (mj_nm o) e.1 e.2))) = true := by decide +kernel
set_option maxRecDepth 100000 in
theorem mj_kldl_ok : ((List.range 13).all fun o => (mj_row mj_ldlT o).all (fun e => mj_isw (.constantLong (mj_nm o) e.1 e.2))) = true := by decide +kernel
set_option maxRecDepth 100000 in
theorem mj_kcls_ok : ((List.range 10).all fun ci => match vwCl[ci]? with
  | some q => (u_ws q.1 q.2.1 q.2.2).all mj_isw && (mj_isw (.instantiable q.1 q.2.2) && (mj_isw (.initialized q.1) && (decide (q.1 = mj_nm ci) && (decide ((mj_row mj_dfT ci).length = q.2.2)))))
  | none => false) = true := by decide +kernel
set_option maxRecDepth 100000 in
theorem mj_knew_ok : ((List.range 13).all fun o => (mj_row mj_newT o).all (fun e => decide (e.2 < 10) && mj_isw (.classLink (mj_nm o) e.1 (mj_nm e.2)))) = true := by decide +kernel
set_option maxRecDepth 100000 in
theorem mj_kobj_ok : ((List.range 13).all fun o => (mj_row mj_objT o).all (fun e => mj_isw (.methodLink (mj_nm o) e.1 objectInit))) = true := by decide +kernel
set_option maxRecDepth 100000 in
theorem mj_kobj2_ok : (mj_isw (.instanceMethod objectInit) && mj_isw (.code objectInit ⟨#[0xb1]⟩ 1 none)) = true := by decide +kernel
set_option maxRecDepth 100000 in
theorem mj_kacp_ok : ((List.range 13).all fun o => (mj_row mj_acpT o).all (fun e => mj_isw (.methodLink (mj_nm o) e.1 arraycopyName))) = true := by decide +kernel
set_option maxRecDepth 100000 in
theorem mj_kacp2_ok : (mj_isw (.native arraycopyName) && (mj_isw (.static arraycopyName) && mj_isw (.initialized "java/lang/System"))) = true := by decide +kernel
set_option maxRecDepth 100000 in
theorem mj_karr_ok : (mj_isw (.arrayClass .int) && (mj_isw (.arrayClass .byte) && (mj_isw (.arrayClass .boolean) && mj_isw (.arrayClass .long)))) = true := by decide +kernel
