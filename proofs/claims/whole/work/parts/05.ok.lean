/-! what is checked of the tables -/
/-- the instruction as it stands in the class file -/
def mm_or (idx : Nat) (i : Instr) : Instr := match i with
  | .getfield _ => .getfield idx
  | .putfield _ => .putfield idx
  | .getstatic _ => .getstatic idx
  | .invokevirtual _ => .invokevirtual idx
  | .invokespecial _ => .invokespecial idx
  | .invokestatic _ => .invokestatic idx
  | .new _ => .new idx
  | .anewarray _ => .anewarray idx
  | i => i
/-- how long an instruction is (switches: 0) -/
def mm_ln (i : Instr) : Nat := match i with
  | .iload _ | .aload _ | .istore _ | .astore _ | .bipush _ | .newarray _ => 2
  | .iinc _ _ | .sipush _ | .getfield _ | .putfield _ | .getstatic _ | .invokevirtual _ | .invokespecial _ | .invokestatic _ | .new _ | .anewarray _ | .goto _ | .ifCond _ _ | .if_icmp _ _ | .ifnull _ | .ifnonnull _ => 3
  | .tableswitch _ _ _ _ | .lookupswitch _ _ => 0
  | _ => 1
def mm_has3 (l : List (Nat × Nat × Nat × Nat)) (a b c : Nat) : Bool := l.any (fun t => t.1 == a && t.2.1 == b && t.2.2.1 == c)
def mm_hasn (l : List (Nat × Nat × Nat)) (a b c : Nat) : Bool := l.any (fun t => t.1 == a && t.2.1 == b && t.2.2 == c)
/-- what an instruction's links ask -/
def mm_lk (M : mm_M) (pc idx : Nat) (i : Instr) : Bool := match i with
  | .goto off => decide (0 ≤ (pc : Int) + off)
  | .ifCond _ off => decide (0 ≤ (pc : Int) + off)
  | .if_icmp _ off => decide (0 ≤ (pc : Int) + off)
  | .ifnull off => decide (0 ≤ (pc : Int) + off)
  | .ifnonnull off => decide (0 ≤ (pc : Int) + off)
  | .tableswitch d _ _ offs => decide (0 ≤ (pc : Int) + d) && offs.toList.all (fun o => decide (0 ≤ (pc : Int) + o))
  | .lookupswitch d ps => decide (0 ≤ (pc : Int) + d) && ps.toList.all (fun o => decide (0 ≤ (pc : Int) + o.2)) && (ps.toList.zip (ps.toList.drop 1)).all (fun (a, next) => a.1 < next.1)
  | .getfield f => mm_has3 mm_fl M.2.2.2.2.1.1 idx f && decide (f / 64 < 10) && decide (f % 64 < (mm_fks.getD (f / 64) []).length)
  | .putfield f => mm_has3 mm_fl M.2.2.2.2.1.1 idx f && decide (f / 64 < 10) && decide (f % 64 < (mm_fks.getD (f / 64) []).length) && (!((mm_fin.getD (f / 64) []).getD (f % 64) true) || (M.1.name == "<init>" && f / 64 == M.2.2.2.2.1.1))
  | .getstatic k => mm_hasn mm_sl M.2.2.2.2.1.1 idx k
  | .new c => mm_has3 mm_nc M.2.2.2.2.1.1 idx c
  | .anewarray t => mm_has3 mm_na M.2.2.2.2.1.1 idx t
  | .invokevirtual z => mm_has3 mm_ml M.2.2.2.2.1.1 idx z && (match mm_ms[z]? with
    | some Z => !Z.2.2.2.2.1.2.2 && !(Z.2.2.2.2.2.1.2.2.1 == 0)
    | none => false)
  | .invokespecial z => (mm_has3 mm_ml M.2.2.2.2.1.1 idx z || mm_hasn mm_mn M.2.2.2.2.1.1 idx z) && (if z = 1000 then mm_has3 mm_ml M.2.2.2.2.1.1 idx z else match mm_ms[z]? with
    | some Z => !Z.2.2.2.2.1.2.2 && Z.1.name == "<init>" && (match Z.2.2.2.1 with | none => true | some _ => false)
    | none => false)
  | .invokestatic z => (mm_has3 mm_ml M.2.2.2.2.1.1 idx z || mm_hasn mm_mn M.2.2.2.2.1.1 idx z) && (if 1001 ≤ z then mm_has3 mm_ml M.2.2.2.2.1.1 idx z else match mm_ms[z]? with
    | some Z => Z.2.2.2.2.1.2.2
    | none => false)
  | .iload k | .aload k | .istore k | .astore k => decide (k < M.2.2.1)
  | .iload_n k | .aload_n k | .istore_n k | .astore_n k => decide (k.val < M.2.2.1)
  | .iinc k _ => decide (k < M.2.2.1)
  | _ => true
def mm_ok1 (M : mm_M) (e : mm_I) : Bool := decide (decode M.2.1 e.1 = .ok (mm_or e.2.2.1 e.2.2.2, e.2.1)) && (decide (mm_ln e.2.2.2 = 0) || decide (mm_ln e.2.2.2 = e.2.1)) && mm_lk M e.1 e.2.2.1 e.2.2.2
def mm_ok2 (M : mm_M) : Prop := lw_tbl[M.2.2.2.2.2.1.1]? = some (.code M.1 M.2.1 M.2.2.1 M.2.2.2.1) ∧ lw_tbl[M.2.2.2.2.2.1.2.1]? = some (if M.2.2.2.2.1.2.2 then .static M.1 else .instanceMethod M.1) ∧ (M.2.2.2.2.2.1.2.2.1 ≠ 0 → lw_tbl[M.2.2.2.2.2.1.2.2.1 - 1]? = some (.selects M.1.cls M.1 M.1)) ∧ lw_tbl[M.2.2.2.2.2.1.2.2.2]? = some (.initialized M.1.cls) ∧ (mm_N[M.2.2.2.2.1.1]? = some M.1.cls ∧ plainName M.1.cls = true ∧ M.1.cls ≠ "java/lang/invoke/MethodHandle" ∧ M.1.cls ≠ "java/lang/invoke/VarHandle" ∧ (parseMethodDescriptor M.1.desc).map (fun d => d.parameters.length) = some M.2.2.2.2.1.2.1 ∧ M.2.2.1 ≤ 20)
def mm_G : List Jvm.Cond := lw_tbl.filter goodWord
def mm_nme (z : Nat) : Option MethodName := if z = 1000 then some objectInit else if z = 1001 then some arraycopyName else if z = 1002 then some Lib.Math.max.name else if z = 1003 then some Lib.Math.min.name else mm_ms[z]?.map (fun M => M.1)
def mm_fdC (f : Nat) : String × String × String := match mm_cl[f / 64]? with
  | some c => (c.1, (c.2.1 (f % 64)).2.1, (c.2.1 (f % 64)).2.2.1)
  | none => ("", "", "")
theorem mm_fl_ok : mm_fl.all (fun t => decide (lw_tbl[t.2.2.2]? = some (.fieldLink (mm_N.getD t.1 "") t.2.1 (mm_fdC t.2.2.1).1 (mm_fdC t.2.2.1).2.1 (mm_fdC t.2.2.1).2.2))) = true := by decide +kernel
theorem mm_ml_ok : mm_ml.all (fun t => decide (lw_tbl[t.2.2.2]? = (mm_nme t.2.2.1).map (fun y => .methodLink (mm_N.getD t.1 "") t.2.1 y)) && decide ((mm_nme t.2.2.1).isSome)) = true := by decide +kernel
theorem mm_mn_ok : mm_mn.all (fun t => match mm_nme t.2.2 with | some y => decide (Jvm.Cond.methodLinkNest (mm_N.getD t.1 "") t.2.1 y "QualifierGate" ∈ lw_tbl) | none => false) = true := by decide +kernel
theorem mm_nc_ok : mm_nc.all (fun t => decide (lw_tbl[t.2.2.2]? = some (.classLink (mm_N.getD t.1 "") t.2.1 (mm_N.getD t.2.2.1 ""))) && decide (t.2.2.1 < 10)) = true := by decide +kernel
theorem mm_na_ok : mm_na.all (fun t => decide (lw_tbl[t.2.2.2]? = some (.classLink (mm_N.getD t.1 "") t.2.1 (mm_N.getD (mm_ac.getD t.2.2.1 0) ""))) && decide (2 ≤ t.2.2.1 ∧ t.2.2.1 < 6)) = true := by decide +kernel
theorem mm_sl_ok : mm_sl.all (fun t => decide (Jvm.Cond.fieldLinkNest (mm_N.getD t.1 "") t.2.1 "QualifierGate$Op" (if t.2.2 = 1 then "POPS" else "PUSHES") "[I" "QualifierGate" ∈ lw_tbl) && decide (t.2.2 = 1 ∨ t.2.2 = 2)) = true := by decide +kernel
theorem mm_ins_ok : (List.range 10).all (fun c => decide (Jvm.Cond.instantiable (mm_N.getD c "") (mm_fks.getD c []).length ∈ lw_tbl) && decide (Jvm.Cond.initialized (mm_N.getD c "") ∈ lw_tbl)) = true := by decide +kernel
