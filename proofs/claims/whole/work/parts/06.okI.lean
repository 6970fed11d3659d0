/-! what a program decides of each instruction: that it stands there, and that its words are among the tables' -/
def mm_pl (I : mm_I) (k : Nat) : Option Jvm.Cond := mm_tbl[I.2.2.2.2.2.getD k 100000]?
def mm_okD (y pc : Nat) (I : mm_I) : Bool := decide (decode (mm_bytes y) pc = .ok (I.1, I.2.1))
def mm_okC (y : Nat) (I : mm_I) (idx m : Nat) : Bool := decide (mm_pl I 0 = some (.methodLink (mm_cls y) idx (mm_name m))) && decide (1 ≤ m ∧ m < 191 ∧ mm_dep m < mm_dep y ∧ mm_maxL m ≤ 20 ∧ mm_maxL m ≥ 0) && decide ((mm_cls m) ≠ "java/lang/invoke/MethodHandle" ∧ (mm_cls m) ≠ "java/lang/invoke/VarHandle" ∧ (parseMethodDescriptor (mm_name m).desc).map (fun d => d.parameters.length) = some I.2.2.2.2.1)
def mm_okI (y pc : Nat) (I : mm_I) : Bool := mm_okD y pc I && (match I.1 with
  | .iconst n => decide (I.2.1 = 1 ∧ (Int32.ofInt n).toInt = I.2.2.1)
  | .bipush n => decide (I.2.1 = 2 ∧ ((Int8.ofInt n).toInt32).toInt = I.2.2.1)
  | .sipush n => decide (I.2.1 = 3 ∧ ((Int16.ofInt n).toInt32).toInt = I.2.2.1)
  | .ldc i => decide (I.2.1 = 2 ∧ mm_pl I 0 = some (.constant (mm_cls y) i (Int32.ofInt I.2.2.1)) ∧ (Int32.ofInt I.2.2.1).toInt = I.2.2.1)
  | .ldc_w i => decide (I.2.1 = 3 ∧ mm_pl I 0 = some (.constant (mm_cls y) i (Int32.ofInt I.2.2.1)) ∧ (Int32.ofInt I.2.2.1).toInt = I.2.2.1)
  | .lconst n => decide (I.2.1 = 1 ∧ (Int64.ofNat (n : Nat)).toInt = I.2.2.1)
  | .ldc2_w i => decide (I.2.1 = 3 ∧ mm_pl I 0 = some (.constantLong (mm_cls y) i (Int64.ofInt I.2.2.1)) ∧ (Int64.ofInt I.2.2.1).toInt = I.2.2.1)
  | .iload _ | .lload _ | .aload _ => decide (I.2.1 = 2)
  | .iload_n _ | .lload_n _ | .aload_n _ => decide (I.2.1 = 1)
  | .istore i | .astore i => decide (I.2.1 = 2 ∧ i < mm_maxL y)
  | .istore_n i | .astore_n i => decide (I.2.1 = 1 ∧ (i : Nat) < mm_maxL y)
  | .lstore i => decide (I.2.1 = 2 ∧ i + 1 < mm_maxL y)
  | .lstore_n i => decide (I.2.1 = 1 ∧ (i : Nat) + 1 < mm_maxL y)
  | .iinc i c => decide (I.2.1 = 3 ∧ i < mm_maxL y ∧ (Int32.ofInt c).toInt = c)
  | .iadd | .isub | .imul | .iand | .ior | .ishl | .ishr | .idiv | .irem | .ladd | .lsub | .lmul | .land | .lor | .ldiv | .lrem | .lshl | .lshr | .lushr | .i2b | .i2l | .l2i | .lcmp | .dup | .dup2 | .pop | .iaload | .baload | .iastore | .bastore | .arraylength | .return_ => decide (I.2.1 = 1)
  | .ifCond _ off | .if_icmp _ off | .goto off => decide (I.2.1 = 3 ∧ (pc : Int) + off = (I.2.2.2.1 : Int))
  | .tableswitch d _ _ offs => decide (0 ≤ (pc : Int) + d) && offs.toList.all (fun o => decide (0 ≤ (pc : Int) + o))
  | .getfield i => decide (I.2.1 = 3) && (match vwCl[I.2.2.2.1]? with
    | some (_, T, N) => decide (I.2.2.2.2.1 < N) && decide (mm_pl I 0 = some (.fieldLink (mm_cls y) i (T I.2.2.2.2.1).1 (T I.2.2.2.2.1).2.1 (T I.2.2.2.2.1).2.2.1))
    | none => false)
  | .putfield i => decide (I.2.1 = 3) && (match vwCl[I.2.2.2.1]? with
    | some (_, T, N) => decide (I.2.2.2.2.1 < N) && decide (mm_pl I 0 = some (.fieldLink (mm_cls y) i (T I.2.2.2.2.1).1 (T I.2.2.2.2.1).2.1 (T I.2.2.2.2.1).2.2.1)) &&
        decide ((T I.2.2.2.2.1).2.2.2 = false ∨ ((T I.2.2.2.2.1).2.2.2 = true ∧ mm_kind y = 2 ∧ (T I.2.2.2.2.1).1 = mm_cls y)) &&
        (match mm_ty I.2.2.2.1 I.2.2.2.2.1 with
          | .int => decide (I.2.2.1 = 1)
          | .object _ => decide (I.2.2.1 = 0)
          | .array _ => decide (I.2.2.1 = 0)
          | _ => false)
    | none => false)
  | .newarray t => decide (I.2.1 = 2) && (match t with
    | .int => decide (mm_pl I 0 = some (.arrayClass .int))
    | .boolean => decide (mm_pl I 0 = some (.arrayClass .boolean))
    | .byte => decide (mm_pl I 0 = some (.arrayClass .byte))
    | _ => false)
  | .new i => decide (I.2.1 = 3) && (match vwCl[I.2.2.2.1]? with
    | some (C, _, N) => decide (mm_pl I 0 = some (.classLink (mm_cls y) i C)) && decide (mm_pl I 1 = some (.instantiable C N)) && decide (mm_pl I 2 = some (.initialized C)) && (List.range N).all (fun k => match mm_ty I.2.2.2.1 k with
      | .int => true
      | .object _ => true
      | .array _ => true
      | _ => false)
    | none => false)
  | .invokestatic i => decide (I.2.1 = 3) && mm_okC y I i I.2.2.2.1 && decide (mm_kind I.2.2.2.1 = 0) && decide (mm_pl I 1 = some (.static (mm_name I.2.2.2.1))) && decide (mm_pl I 2 = some (.initialized (mm_cls I.2.2.2.1)))
  | .invokevirtual i => decide (I.2.1 = 3) && mm_okC y I i I.2.2.2.1 && decide (mm_kind I.2.2.2.1 = 1) && decide (mm_pl I 1 = some (.instanceMethod (mm_name I.2.2.2.1))) && decide (mm_pl I 2 = some (.selects (mm_cls I.2.2.2.1) (mm_name I.2.2.2.1) (mm_name I.2.2.2.1))) && decide (mm_pl I 3 = some (.initialized (mm_cls I.2.2.2.1))) &&
      (match vwCl[I.2.2.1.toNat]? with
        | some (C, _, _) => decide (C = mm_cls I.2.2.2.1)
        | none => false)
  | .invokespecial i => decide (I.2.1 = 3) && (if I.2.2.2.2.1 = 1000 then decide (1 ≤ mm_dep y) && decide (mm_pl I 0 = some (.methodLink (mm_cls y) i Lib.objectInit)) && decide (mm_pl I 1 = some (.instanceMethod Lib.objectInit)) && decide (mm_pl I 2 = some (.code Lib.objectInit ⟨#[0xb1]⟩ 1 none))
      else mm_okC y I i I.2.2.2.1 && decide (mm_kind I.2.2.2.1 = 2) && decide (mm_pl I 1 = some (.instanceMethod (mm_name I.2.2.2.1))) && decide (mm_pl I 2 = some (.initialized (mm_cls I.2.2.2.1))) && decide ((mm_name I.2.2.2.1).name = "<init>") && decide (mm_ret I.2.2.2.1 = none))
  | .ireturn => decide (I.2.1 = 1) && (if I.2.2.1 = 1 then decide (mm_ret y = some .boolean) else decide (I.2.2.1 = 0 ∧ mm_ret y = some .int))
  | .areturn => decide (I.2.1 = 1) && (match mm_ret y with
    | some (.object _) => true
    | _ => false)
  | _ => false)
