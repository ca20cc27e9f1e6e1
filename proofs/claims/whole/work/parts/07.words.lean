/-! THE TABLES AGAINST THE STATEMENT'S WORDS, decided -/
def tb_nm (k : Nat) : String := tb_own.getD k ""
def tb_y (y : Nat) : MethodName := ⟨tb_nm (tb_cls y), (tb_met.getD y tb_dm).2.1, (tb_met.getD y tb_dm).2.2.1⟩
def tb_rty (y : Nat) : Option FieldType := match tb_rt y with
  | 0 => none
  | 1 => some .int
  | 2 => some .long
  | 3 => some .boolean
  | _ => if y = 41 then some (.object "LoadRoom$Piece") else some (.object "LoadRoom$Placed")
def tb_tyc (d : String) : Nat := if d = "I" then 0 else if d = "J" then 1 else if d = "Z" then 3 else 2
def tb_f (kd p : Nat) : String × String × String × Bool := tb_u kd p
/-- a method's words, its code's apart -/
def tb_okM (y : Nat) : Bool :=
  let w := tb_mw.getD y (0, 0, 0, 0)
  decide (lw_tbl[w.2.1]? = some (if tb_sta y = true then .static (tb_y y) else .instanceMethod (tb_y y))) &&
  ((tb_sta y || (tb_y y).name == "<init>" || decide (lw_tbl[w.2.2.1]? = some (.selects (tb_y y).cls (tb_y y) (tb_y y)))) &&
  decide (lw_tbl[w.2.2.2]? = some (.initialized (tb_y y).cls)))
/-- a method's code, as the statement says it -/
def tb_cw (y : Nat) : Cond :=
  let hs := (tb_han.getD y []).map (fun q => (q.1, q.2.1, q.2.2.1, q.2.2.2.2))
  if hs = [] then .code (tb_y y) (tb_byt.getD y ⟨#[]⟩) (tb_nL y) (tb_rty y) else .codeWith (tb_y y) (tb_byt.getD y ⟨#[]⟩) (tb_nL y) (tb_rty y) hs
def tb_okF (q : (Nat × Nat) × (Nat × Nat × Nat) × Nat × Bool) : Bool :=
  decide (lw_tbl[q.2.2.1]? = some (if q.2.2.2 = true then .fieldLinkNest (tb_nm q.1.1) q.1.2 (tb_nm q.2.1.1) (tb_f q.2.1.1 q.2.1.2.1).2.1 (tb_f q.2.1.1 q.2.1.2.1).2.2.1 "LoadRoom" else .fieldLink (tb_nm q.1.1) q.1.2 (tb_nm q.2.1.1) (tb_f q.2.1.1 q.2.1.2.1).2.1 (tb_f q.2.1.1 q.2.1.2.1).2.2.1)) &&
  (decide (q.2.1.2.1 < (tb_ty.getD q.2.1.1 []).length) && (decide (q.2.1.1 < 11) && (decide (tb_tyc (tb_f q.2.1.1 q.2.1.2.1).2.2.1 = q.2.1.2.2) && (decide ((tb_ty.getD q.2.1.1 []).getD q.2.1.2.1 0 = q.2.1.2.2) && decide ((tb_f q.2.1.1 q.2.1.2.1).1 = tb_nm q.2.1.1)))))
def tb_okL (kd : Nat) : Bool := (List.range (tb_ty.getD kd []).length).all fun p => decide (lw_tbl[(tb_lay.getD kd []).getD p 0]? = some (u_lay (tb_nm kd) (tb_u kd) p))
def tb_okC (q : (Nat × Nat) × Nat × Nat × Bool) : Bool :=
  if q.2.1 < 1000 then decide (lw_tbl[q.2.2.1]? = some (if q.2.2.2 = true then .methodLinkNest (tb_nm q.1.1) q.1.2 (tb_y q.2.1) "LoadRoom" else .methodLink (tb_nm q.1.1) q.1.2 (tb_y q.2.1))) && decide (0 < q.2.1)
  else if q.2.1 = 1000 then decide (lw_tbl[q.2.2.1]? = some (.methodLink (tb_nm q.1.1) q.1.2 Lib.objectInit))
  else decide (lw_tbl[q.2.2.1]? = some (.methodLink (tb_nm q.1.1) q.1.2 ⟨((tb_kin.lookup (q.2.1 - 971)).getD ("", 0)).1, "<init>", "(Ljava/lang/String;)V"⟩))
def tb_okK (q : (Nat × Nat) × Nat × Nat) : Bool :=
  if q.2.1 < 20 ∨ 30 ≤ q.2.1 then decide (lw_tbl[q.2.2]? = some (.classLink (tb_nm q.1.1) q.1.2 ((tb_kin.lookup q.2.1).getD ("", 0)).1)) else decide (q.2.1 = 26 ∧ lw_tbl[q.2.2]? = some (.classLink (tb_nm q.1.1) q.1.2 "[[I"))
def tb_okS (q : Nat × Nat × Nat) : Bool := decide (lw_tbl[q.2.2]? = some (.instantiable ((tb_kin.lookup q.1).getD ("", 0)).1 q.2.1))
def tb_okI (q : Nat × String × Nat) : Bool := decide (lw_tbl[q.2.2]? = some (.initialized q.2.1))
set_option maxRecDepth 100000 in
theorem tb_okF_all : tb_fld.all tb_okF = true := by decide +kernel
set_option maxRecDepth 100000 in
theorem tb_okL_all : (List.range 11).all tb_okL = true := by decide +kernel
set_option maxRecDepth 100000 in
theorem tb_okC_all : tb_cal.all tb_okC = true := by decide +kernel
set_option maxRecDepth 100000 in
theorem tb_okK_all : tb_cla.all tb_okK = true := by decide +kernel
set_option maxRecDepth 100000 in
theorem tb_okS_all : tb_slt.all tb_okS = true := by decide +kernel
set_option maxRecDepth 100000 in
theorem tb_okI_all : tb_kin.all tb_okI = true := by decide +kernel
/-- an instruction as it stands in the bytes; its jumps go forward from 0 -/
def tb_okT (pc : Nat) : ClassFile.Instr → Bool
  | .goto o => decide (0 ≤ (pc : Int) + o)
  | .ifCond _ o => decide (0 ≤ (pc : Int) + o)
  | .if_icmp _ o => decide (0 ≤ (pc : Int) + o)
  | .ifnull o => decide (0 ≤ (pc : Int) + o)
  | .ifnonnull o => decide (0 ≤ (pc : Int) + o)
  | .tableswitch d lo hi offs => decide (0 ≤ (pc : Int) + d) && (offs.toList.all (fun o => decide (0 ≤ (pc : Int) + o)) && decide ((offs.toList.length : Int) = hi - lo + 1))
  | _ => true
def tb_okD (y c : Nat) : Bool := ((tb_ins.getD y []).getD c []).all fun q => decide ((decode (tb_byt.getD y ⟨#[]⟩) q.1).toOption = some q.2) && tb_okT q.1 q.2.1
