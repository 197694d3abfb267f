/-! THE FLAT CODE IS THE METHODS' CODE: each flat instruction out of the decoded one, each link by its word -/
def sm_tbl : List Cond := lw_tbl.filter goodWord
def sm_cond : Jvm.ClassFile.Cond → Int
  | .eq => 0
  | .ne => 1
  | .lt => 2
  | .ge => 3
  | .gt => 4
  | .le => 5
/-- the flat instruction and the length of the decoded one; own: the number of the class, pc: the place -/
def sm_lower (own pc : Nat) (i : Instr) : Option (Smi × Nat) := match i with
  | .iconst v => some ((1, [v], pc + 1), 1)
  | .bipush v => if (Int8.ofInt v).toInt32 = Int32.ofInt v then some ((1, [v], pc + 2), 2) else none
  | .sipush v => if (Int16.ofInt v).toInt32 = Int32.ofInt v then some ((1, [v], pc + 3), 3) else none
  | .ldc k => match sm_at sm_rk own k with
    | some (v, _) => some ((1, [v], pc + 2), 2)
    | none => none
  | .ldc_w k => match sm_at sm_rk own k with
    | some (v, _) => some ((1, [v], pc + 3), 3)
    | none => none
  | .ldc2_w k => match sm_at sm_rl own k with
    | some (v, _) => some ((39, [v], pc + 3), 3)
    | none => none
  | .lconst k => some ((39, [((k : Nat) : Int)], pc + 1), 1)
  | .iload k => some ((2, [(k : Int), 0], pc + 2), 2)
  | .lload k => some ((2, [(k : Int), 1], pc + 2), 2)
  | .aload k => some ((2, [(k : Int), 2], pc + 2), 2)
  | .iload_n k => some ((2, [((k : Nat) : Int), 0], pc + 1), 1)
  | .lload_n k => some ((2, [((k : Nat) : Int), 1], pc + 1), 1)
  | .aload_n k => some ((2, [((k : Nat) : Int), 2], pc + 1), 1)
  | .istore k => some ((3, [(k : Int), 0], pc + 2), 2)
  | .lstore k => some ((3, [(k : Int), 1], pc + 2), 2)
  | .astore k => some ((3, [(k : Int), 2], pc + 2), 2)
  | .istore_n k => some ((3, [((k : Nat) : Int), 0], pc + 1), 1)
  | .lstore_n k => some ((3, [((k : Nat) : Int), 1], pc + 1), 1)
  | .astore_n k => some ((3, [((k : Nat) : Int), 2], pc + 1), 1)
  | .iinc k d => some ((4, [(k : Int), d], pc + 3), 3)
  | .iadd => some ((5, [0], pc + 1), 1)
  | .isub => some ((5, [1], pc + 1), 1)
  | .imul => some ((5, [2], pc + 1), 1)
  | .idiv => some ((5, [3], pc + 1), 1)
  | .irem => some ((5, [4], pc + 1), 1)
  | .ishl => some ((5, [5], pc + 1), 1)
  | .ishr => some ((5, [6], pc + 1), 1)
  | .iushr => some ((5, [7], pc + 1), 1)
  | .iand => some ((5, [8], pc + 1), 1)
  | .ior => some ((5, [9], pc + 1), 1)
  | .ixor => some ((5, [10], pc + 1), 1)
  | .ifCond c o => if 0 ≤ (pc : Int) + o then some ((6, [sm_cond c, (pc : Int) + o], pc + 3), 3) else none
  | .if_icmp c o => if 0 ≤ (pc : Int) + o then some ((7, [sm_cond c, (pc : Int) + o], pc + 3), 3) else none
  | .goto o => if 0 ≤ (pc : Int) + o then some ((8, [(pc : Int) + o], pc + 3), 3) else none
  | .getfield k => match sm_at sm_rf own k with
    | some (ci, j, _) => some ((9, [(ci : Int), (j : Int)], pc + 3), 3)
    | none => none
  | .putfield k => match sm_at sm_rf own k with
    | some (ci, j, _) => some ((10, [(ci : Int), (j : Int)], pc + 3), 3)
    | none => none
  | .iaload => some ((11, [], pc + 1), 1)
  | .iastore => some ((12, [], pc + 1), 1)
  | .baload => some ((13, [], pc + 1), 1)
  | .bastore => some ((14, [], pc + 1), 1)
  | .aaload => some ((15, [], pc + 1), 1)
  | .aastore => some ((16, [], pc + 1), 1)
  | .arraylength => some ((17, [], pc + 1), 1)
  | .invokevirtual k => match sm_at sm_rm own k with
    | some (mi, _, _) => match sm_ms[mi]? with
      | some y => match parseMethodDescriptor y.1.desc with
        | some d => some ((18, [(mi : Int), (d.parameters.length : Int)], pc + 3), 3)
        | none => none
      | none => none
    | none => none
  | .invokestatic k => match sm_at sm_rm own k with
    | some (9998, _, _) => some ((41, [], pc + 3), 3)
    | some (mi, _, _) => match sm_ms[mi]? with
      | some y => match parseMethodDescriptor y.1.desc with
        | some d => some ((19, [(mi : Int), (d.parameters.length : Int)], pc + 3), 3)
        | none => none
      | none => none
    | none => none
  | .invokespecial k => match sm_at sm_rm own k with
    | some (9999, _, _) => some ((42, [], pc + 3), 3)
    | some (mi, _, _) => match sm_ms[mi]? with
      | some y => match parseMethodDescriptor y.1.desc with
        | some d => some ((20, [(mi : Int), (d.parameters.length : Int)], pc + 3), 3)
        | none => none
      | none => none
    | none => none
  | .return_ => some ((21, [], pc + 1), 1)
  | .ireturn => some ((22, [], pc + 1), 1)
  | .lreturn => some ((23, [], pc + 1), 1)
  | .areturn => some ((24, [], pc + 1), 1)
  | .dup => some ((25, [], pc + 1), 1)
  | .dup2 => some ((26, [], pc + 1), 1)
  | .pop => some ((27, [], pc + 1), 1)
  | .pop2 => some ((28, [], pc + 1), 1)
  | .new k => match sm_at sm_rc own k with
    | some (ci, _) => some ((29, [(ci : Int)], pc + 3), 3)
    | none => none
  | .newarray .int => some ((30, [20], pc + 2), 2)
  | .newarray .boolean => some ((30, [21], pc + 2), 2)
  | .anewarray k => match sm_at sm_rc own k with
    | some (ci, _) => some ((31, [(ci : Int)], pc + 3), 3)
    | none => none
  | .getstatic k => match sm_at sm_rs own k with
    | some (j, _, _) => some ((32, [(j : Int)], pc + 3), 3)
    | none => none
  | .ifnull o => if 0 ≤ (pc : Int) + o then some ((33, [(pc : Int) + o], pc + 3), 3) else none
  | .ifnonnull o => if 0 ≤ (pc : Int) + o then some ((34, [(pc : Int) + o], pc + 3), 3) else none
  | .aconst_null => some ((35, [], pc + 1), 1)
  | .i2l => some ((36, [], pc + 1), 1)
  | .ladd => some ((37, [], pc + 1), 1)
  | .lmul => some ((38, [], pc + 1), 1)
  | _ => none
/-- the same, with a table switch (its length hangs on its padding) and the kind of an int's return -/
def sm_low (own : Nat) (ret : Option FieldType) (pc : Nat) (i : Instr) (len : Nat) : Option Smi := match i with
  | .tableswitch df lo hi offs => if (lo ≤ hi + 1 ∧ offs.size = (hi + 1 - lo).toNat) ∧ (0 ≤ (pc : Int) + df ∧ offs.all (fun o => decide (0 ≤ (pc : Int) + o)) = true) then some (40, lo :: ((pc : Int) + df) :: offs.toList.map (fun o => (pc : Int) + o), pc + len) else none
  | .ireturn => if len = 1 then (match ret with
    | some .int => some (22, [0], pc + 1)
    | some .boolean => some (22, [1], pc + 1)
    | _ => none) else none
  | i => match sm_lower own pc i with
    | some (q, n) => if n = len then some q else none
    | none => none
def sm_chk (y : sm_M) (e : Nat × Smi) : Bool := match decode y.2.1 e.1 with
  | .ok (i, len) => sm_low y.2.2.2.2 y.2.2.2.1 e.1 i len == some e.2
  | _ => false
def sm_chks (m : Nat) : Bool := match sm_ms[m]?, sm_cs[m]? with
  | some y, some l => l.all (sm_chk y)
  | _, _ => false
theorem sm_t0 : ((List.range 48).map (· + 0)).all sm_chks = true := by decide +kernel
theorem sm_t1 : ((List.range 30).map (· + 48)).all sm_chks = true := by decide +kernel
theorem sm_t2 : ((List.range 41).map (· + 78)).all sm_chks = true := by decide +kernel
theorem sm_t3 : ((List.range 22).map (· + 119)).all sm_chks = true := by decide +kernel
theorem sm_t4 : ((List.range 1).map (· + 141)).all sm_chks = true := by decide +kernel
theorem sm_t5 : ((List.range 15).map (· + 142)).all sm_chks = true := by decide +kernel
theorem sm_t6 : ((List.range 1).map (· + 157)).all sm_chks = true := by decide +kernel
theorem sm_t7 : ((List.range 3).map (· + 158)).all sm_chks = true := by decide +kernel
