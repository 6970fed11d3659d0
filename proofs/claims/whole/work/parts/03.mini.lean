/-! A SMALL MACHINE, in pure words: cells by numbers, ints and longs as integers. Part 05 says that the Statement's machine does what it does. -/
abbrev mm_V : Type := Int ⊕ (Int ⊕ Option Nat)
abbrev mm_C : Type := (Nat × Nat × (Nat → Int)) ⊕ (Nat × List mm_V)
abbrev mm_H : Type := Nat → mm_C
/-- an instruction: itself, its length, a constant, two numbers, the places of its words among lw_tbl -/
abbrev mm_I : Type := Instr × Nat × Int × Nat × Nat × List Nat
abbrev mm_F : Type := Nat × List mm_V × List mm_V × mm_H
abbrev mm_O : Type := mm_F ⊕ ((Option mm_V × mm_H) ⊕ (Nat × List mm_V × Nat × List mm_V × List mm_V × mm_H))
def mm_w32 (z : Int) : Int := (z + 2147483648) % 4294967296 - 2147483648
def mm_w64 (z : Int) : Int := (z + 9223372036854775808) % 18446744073709551616 - 9223372036854775808
def mm_w8 (z : Int) : Int := (z + 128) % 256 - 128
def mm_null : mm_V := .inr (.inr none)
def mm_dead : mm_C := .inr (99, [])
def mm_up (h : mm_H) (a : Nat) (c : mm_C) : mm_H := fun b => if b = a then c else h b
def mm_st (f : Nat → Int) (k : Nat) (z : Int) : Nat → Int := fun j => if j = k then z else f j
def mm_get (ls : List mm_V) (i : Nat) : mm_V := ls.getD i mm_null
def mm_wide : mm_V → Bool
  | .inr (.inl _) => true
  | _ => false
def mm_ok1 (ls : List mm_V) : Nat → Bool
  | 0 => true
  | j + 1 => !(mm_wide (mm_get ls j))
def mm_cat : List mm_V → Nat
  | [] => 0
  | v :: r => (if mm_wide v = true then 2 else 1) + mm_cat r
def mm_spread : List mm_V → List mm_V
  | [] => []
  | v :: r => if mm_wide v = true then v :: mm_null :: mm_spread r else v :: mm_spread r
def mm_pad (n : Nat) (l : List mm_V) : List mm_V := l ++ List.replicate (n - l.length) mm_null
def mm_arr (h : mm_H) (r : Option Nat) : Option (Nat × Nat × (Nat → Int)) := match r with
  | none => none
  | some a => match h a with
    | .inl x => some x
    | .inr _ => none
def mm_obj (h : mm_H) (r : Option Nat) (ci : Nat) : Option (List mm_V) := match r with
  | none => none
  | some a => match h a with
    | .inl _ => none
    | .inr x => if x.1 = ci then some x.2 else none
def mm_cmp : Jvm.ClassFile.Cond → Int → Int → Bool
  | .eq, x, y => decide (x = y)
  | .ne, x, y => decide (x ≠ y)
  | .lt, x, y => decide (x < y)
  | .ge, x, y => decide (y ≤ x)
  | .gt, x, y => decide (y < x)
  | .le, x, y => decide (x ≤ y)
-- the steps by kind
def mm_push (pc : Nat) (ls st : List mm_V) (h : mm_H) (v : mm_V) : Option mm_O := some (.inl (pc, ls, v :: st, h))
def mm_iload (pc : Nat) (ls st : List mm_V) (h : mm_H) (i : Nat) : Option mm_O := match mm_get ls i with
  | .inl z => some (.inl (pc, ls, .inl z :: st, h))
  | _ => none
def mm_lload (pc : Nat) (ls st : List mm_V) (h : mm_H) (i : Nat) : Option mm_O := match mm_get ls i with
  | .inr (.inl z) => some (.inl (pc, ls, .inr (.inl z) :: st, h))
  | _ => none
def mm_aload (pc : Nat) (ls st : List mm_V) (h : mm_H) (i : Nat) : Option mm_O := match mm_get ls i with
  | .inr (.inr (some a)) => some (.inl (pc, ls, .inr (.inr (some a)) :: st, h))
  | _ => none
def mm_istore (pc : Nat) (ls st : List mm_V) (h : mm_H) (i : Nat) : Option mm_O := match st with
  | .inl z :: r => if mm_ok1 ls i = true then some (.inl (pc, ls.set i (.inl z), r, h)) else none
  | _ => none
def mm_lstore (pc : Nat) (ls st : List mm_V) (h : mm_H) (i : Nat) : Option mm_O := match st with
  | .inr (.inl z) :: r => if mm_ok1 ls i = true then some (.inl (pc, (ls.set i (.inr (.inl z))).set (i + 1) mm_null, r, h)) else none
  | _ => none
def mm_astore (pc : Nat) (ls st : List mm_V) (h : mm_H) (i : Nat) : Option mm_O := match st with
  | .inr (.inr (some a)) :: r => if mm_ok1 ls i = true then some (.inl (pc, ls.set i (.inr (.inr (some a))), r, h)) else none
  | _ => none
def mm_iinc (pc : Nat) (ls st : List mm_V) (h : mm_H) (i : Nat) (c : Int) : Option mm_O := match mm_get ls i with
  | .inl z => if mm_ok1 ls i = true then some (.inl (pc, ls.set i (.inl (mm_w32 (z + c))), st, h)) else none
  | _ => none
def mm_bin (pc : Nat) (ls st : List mm_V) (h : mm_H) (f : Int → Int → Int) : Option mm_O := match st with
  | .inl y :: .inl x :: r => some (.inl (pc, ls, .inl (f x y) :: r, h))
  | _ => none
def mm_binz (pc : Nat) (ls st : List mm_V) (h : mm_H) (f : Int → Int → Int) : Option mm_O := match st with
  | .inl y :: .inl x :: r => if y = 0 then none else some (.inl (pc, ls, .inl (f x y) :: r, h))
  | _ => none
def mm_lbin (pc : Nat) (ls st : List mm_V) (h : mm_H) (f : Int → Int → Int) : Option mm_O := match st with
  | .inr (.inl y) :: .inr (.inl x) :: r => some (.inl (pc, ls, .inr (.inl (f x y)) :: r, h))
  | _ => none
def mm_lbinz (pc : Nat) (ls st : List mm_V) (h : mm_H) (f : Int → Int → Int) : Option mm_O := match st with
  | .inr (.inl y) :: .inr (.inl x) :: r => if y = 0 then none else some (.inl (pc, ls, .inr (.inl (f x y)) :: r, h))
  | _ => none
def mm_lsh (pc : Nat) (ls st : List mm_V) (h : mm_H) (f : Int → Int → Int) : Option mm_O := match st with
  | .inl y :: .inr (.inl x) :: r => some (.inl (pc, ls, .inr (.inl (f x y)) :: r, h))
  | _ => none
def mm_un (pc : Nat) (ls st : List mm_V) (h : mm_H) (f : Int → Int) : Option mm_O := match st with
  | .inl x :: r => some (.inl (pc, ls, .inl (f x) :: r, h))
  | _ => none
def mm_i2l (pc : Nat) (ls st : List mm_V) (h : mm_H) : Option mm_O := match st with
  | .inl x :: r => some (.inl (pc, ls, .inr (.inl x) :: r, h))
  | _ => none
def mm_l2i (pc : Nat) (ls st : List mm_V) (h : mm_H) : Option mm_O := match st with
  | .inr (.inl x) :: r => some (.inl (pc, ls, .inl (mm_w32 x) :: r, h))
  | _ => none
def mm_lcmp (pc : Nat) (ls st : List mm_V) (h : mm_H) : Option mm_O := match st with
  | .inr (.inl y) :: .inr (.inl x) :: r => some (.inl (pc, ls, .inl (if x < y then -1 else if x = y then 0 else 1) :: r, h))
  | _ => none
def mm_if (c : Jvm.ClassFile.Cond) (t pc : Nat) (ls st : List mm_V) (h : mm_H) : Option mm_O := match st with
  | .inl x :: r => if mm_cmp c x 0 = true then some (.inl (t, ls, r, h)) else some (.inl (pc, ls, r, h))
  | _ => none
def mm_icmp (c : Jvm.ClassFile.Cond) (t pc : Nat) (ls st : List mm_V) (h : mm_H) : Option mm_O := match st with
  | .inl y :: .inl x :: r => if mm_cmp c x y = true then some (.inl (t, ls, r, h)) else some (.inl (pc, ls, r, h))
  | _ => none
def mm_switch (pc : Nat) (d lo hi : Int) (offs : Array Int) (ls st : List mm_V) (h : mm_H) : Option mm_O := match st with
  | .inl x :: r => if x < lo ∨ hi < x then some (.inl (((pc : Int) + d).toNat, ls, r, h)) else
      match offs[(x - lo).toNat]? with
      | some o => some (.inl (((pc : Int) + o).toNat, ls, r, h))
      | none => none
  | _ => none
def mm_dup (pc : Nat) (ls st : List mm_V) (h : mm_H) : Option mm_O := match st with
  | v :: r => if mm_wide v = true then none else some (.inl (pc, ls, v :: v :: r, h))
  | _ => none
def mm_dup2 (pc : Nat) (ls st : List mm_V) (h : mm_H) : Option mm_O := match st with
  | v :: w :: r => if mm_wide v = true ∨ mm_wide w = true then none else some (.inl (pc, ls, v :: w :: v :: w :: r, h))
  | _ => none
def mm_pop (pc : Nat) (ls st : List mm_V) (h : mm_H) : Option mm_O := match st with
  | v :: r => if mm_wide v = true then none else some (.inl (pc, ls, r, h))
  | _ => none
def mm_getf (pc : Nat) (ls st : List mm_V) (h : mm_H) (ci k : Nat) : Option mm_O := match st with
  | .inr (.inr r) :: rest => match mm_obj h r ci with
    | some fs => match fs[k]? with
      | some v => some (.inl (pc, ls, v :: rest, h))
      | none => none
    | none => none
  | _ => none
/-- q: whether the field is an int (1) or a reference (0) -/
def mm_putf (pc : Nat) (ls st : List mm_V) (h : mm_H) (ci k : Nat) (q : Int) : Option mm_O := match st with
  | .inl z :: .inr (.inr (some a)) :: rest => match mm_obj h (some a) ci with
    | some fs => if q = 1 ∧ k < fs.length then some (.inl (pc, ls, rest, mm_up h a (.inr (ci, fs.set k (.inl z))))) else none
    | none => none
  | .inr (.inr (some b)) :: .inr (.inr (some a)) :: rest => match mm_obj h (some a) ci with
    | some fs => if q = 0 ∧ k < fs.length then some (.inl (pc, ls, rest, mm_up h a (.inr (ci, fs.set k (.inr (.inr (some b))))))) else none
    | none => none
  | _ => none
def mm_iald (pc : Nat) (ls st : List mm_V) (h : mm_H) : Option mm_O := match st with
  | .inl j :: .inr (.inr r) :: rest => match mm_arr h r with
    | some (t, n, f) => if (t = 0 ∨ t = 3) ∧ 0 ≤ j ∧ j < n then some (.inl (pc, ls, .inl (f j.toNat) :: rest, h)) else none
    | none => none
  | _ => none
def mm_bald (pc : Nat) (ls st : List mm_V) (h : mm_H) : Option mm_O := match st with
  | .inl j :: .inr (.inr r) :: rest => match mm_arr h r with
    | some (t, n, f) => if (t = 1 ∨ t = 2) ∧ 0 ≤ j ∧ j < n then some (.inl (pc, ls, .inl (f j.toNat) :: rest, h)) else none
    | none => none
  | _ => none
def mm_iast (pc : Nat) (ls st : List mm_V) (h : mm_H) : Option mm_O := match st with
  | .inl z :: .inl j :: .inr (.inr (some a)) :: rest => match mm_arr h (some a) with
    | some (t, n, f) => if t = 0 ∧ 0 ≤ j ∧ j < n then some (.inl (pc, ls, rest, mm_up h a (.inl (t, n, mm_st f j.toNat z)))) else none
    | none => none
  | _ => none
def mm_bast (pc : Nat) (ls st : List mm_V) (h : mm_H) : Option mm_O := match st with
  | .inl z :: .inl j :: .inr (.inr (some a)) :: rest => match mm_arr h (some a) with
    | some (t, n, f) => if t = 2 ∧ 0 ≤ j ∧ j < n then some (.inl (pc, ls, rest, mm_up h a (.inl (t, n, mm_st f j.toNat (mm_w8 z)))))
        else if t = 1 ∧ 0 ≤ j ∧ j < n ∧ (z = 0 ∨ z = 1) then some (.inl (pc, ls, rest, mm_up h a (.inl (t, n, mm_st f j.toNat z)))) else none
    | none => none
  | _ => none
def mm_alen (pc : Nat) (ls st : List mm_V) (h : mm_H) : Option mm_O := match st with
  | .inr (.inr r) :: rest => match mm_arr h r with
    | some (t, n, _) => if t < 4 ∧ n < 2147483648 then some (.inl (pc, ls, .inl (n : Int) :: rest, h)) else none
    | none => none
  | _ => none
/-- cell 0 tells what the next cell's number is, and how many slots all have (100 more) -/
def mm_alloc (h : mm_H) (c : mm_C) (sl : Nat) : Option (Nat × mm_H) := match h 0 with
  | .inl (t, n, f) => if 100 ≤ t ∧ 2 ≤ n then some (n, mm_up (mm_up h n c) 0 (.inl (t + sl, n + 1, f))) else none
  | .inr _ => none
def mm_newa (pc : Nat) (ls st : List mm_V) (h : mm_H) (t : Nat) : Option mm_O := match st with
  | .inl z :: rest => if 0 ≤ z ∧ z ≤ 100000 then match mm_alloc h (.inl (t, z.toNat, fun _ => 0)) z.toNat with
      | some (a, h') => some (.inl (pc, ls, .inr (.inr (some a)) :: rest, h'))
      | none => none
    else none
  | _ => none
def mm_new (pc : Nat) (ls st : List mm_V) (h : mm_H) (ci : Nat) (fs : List mm_V) : Option mm_O := match mm_alloc h (.inr (ci, fs)) fs.length with
  | some (a, h') => some (.inl (pc, ls, .inr (.inr (some a)) :: st, h'))
  | none => none
/-- m: the callee; k: how many arguments behind the receiver -/
def mm_callS (pc : Nat) (ls st : List mm_V) (h : mm_H) (m k : Nat) : Option mm_O :=
  if k ≤ st.length ∧ mm_cat (st.drop k) ≤ 8 then some (.inr (.inr (m, (st.take k).reverse, pc, ls, st.drop k, h))) else none
def mm_callV (pc : Nat) (ls st : List mm_V) (h : mm_H) (m k ci : Nat) : Option mm_O := match st.drop k with
  | .inr (.inr (some a)) :: rest => match mm_obj h (some a) ci with
    | some _ => if mm_cat rest ≤ 8 then some (.inr (.inr (m, .inr (.inr (some a)) :: (st.take k).reverse, pc, ls, rest, h))) else none
    | none => none
  | _ => none
def mm_callI (pc : Nat) (ls st : List mm_V) (h : mm_H) (m k : Nat) : Option mm_O := match st.drop k with
  | .inr (.inr (some a)) :: rest => if mm_cat rest ≤ 8 then
      if k = 1000 then none else some (.inr (.inr (m, .inr (.inr (some a)) :: (st.take k).reverse, pc, ls, rest, h)))
    else none
  | _ => none
def mm_objInit (pc : Nat) (ls st : List mm_V) (h : mm_H) : Option mm_O := match st with
  | .inr (.inr (some _)) :: rest => if mm_cat rest ≤ 8 then some (.inl (pc, ls, rest, h)) else none
  | _ => none
def mm_iret (st : List mm_V) (h : mm_H) (c : Int) : Option mm_O := match st with
  | [.inl z] => if c = 1 → (z = 0 ∨ z = 1) then some (.inr (.inl (some (.inl z), h))) else none
  | _ => none
def mm_aret (st : List mm_V) (h : mm_H) : Option mm_O := match st with
  | [.inr (.inr (some a))] => some (.inr (.inl (some (.inr (.inr (some a))), h)))
  | _ => none
def mm_s32 (f : Int32 → Int32 → Int32) : Int → Int → Int := fun x y => (f (Int32.ofInt x) (Int32.ofInt y)).toInt
def mm_s64 (f : Int64 → Int64 → Int64) : Int → Int → Int := fun x y => (f (Int64.ofInt x) (Int64.ofInt y)).toInt
def mm_lshl1 : Int → Int → Int := fun x y => (Int64.ofInt x <<< ((Int32.ofInt y).toInt64 &&& 63)).toInt
def mm_lshr1 : Int → Int → Int := fun x y => (Int64.ofInt x >>> ((Int32.ofInt y).toInt64 &&& 63)).toInt
def mm_lushr1 : Int → Int → Int := fun x y => (((Int64.ofInt x).toUInt64 >>> ((Int32.ofInt y).toInt64.toUInt64 &&& Int64.toUInt64 63)).toInt64).toInt
def mm_aty : ArrayType → Nat
  | .int => 0
  | .boolean => 1
  | .byte => 2
  | _ => 9
/-- what a new object of a class holds: by its fields' types -/
def mm_dfl (ty : FieldType) : mm_V := match ty with
  | .int => .inl 0
  | _ => mm_null
def mm_blank (ci : Nat) : List mm_V := match vwCl[ci]? with
  | some (_, _, N) => (List.range N).map (fun k => mm_dfl (mm_ty ci k))
  | none => []
def mm_step (I : mm_I) (pc : Nat) (ls st : List mm_V) (h : mm_H) : Option mm_O := match I.1 with
  | .iconst _ => mm_push (pc + 1) ls st h (.inl I.2.2.1)
  | .bipush _ => mm_push (pc + 2) ls st h (.inl I.2.2.1)
  | .sipush _ => mm_push (pc + 3) ls st h (.inl I.2.2.1)
  | .ldc _ => mm_push (pc + 2) ls st h (.inl I.2.2.1)
  | .ldc_w _ => mm_push (pc + 3) ls st h (.inl I.2.2.1)
  | .lconst _ => mm_push (pc + 1) ls st h (.inr (.inl I.2.2.1))
  | .ldc2_w _ => mm_push (pc + 3) ls st h (.inr (.inl I.2.2.1))
  | .iload i => mm_iload (pc + 2) ls st h i
  | .iload_n i => mm_iload (pc + 1) ls st h i
  | .lload i => mm_lload (pc + 2) ls st h i
  | .lload_n i => mm_lload (pc + 1) ls st h i
  | .aload i => mm_aload (pc + 2) ls st h i
  | .aload_n i => mm_aload (pc + 1) ls st h i
  | .istore i => mm_istore (pc + 2) ls st h i
  | .istore_n i => mm_istore (pc + 1) ls st h i
  | .lstore i => mm_lstore (pc + 2) ls st h i
  | .lstore_n i => mm_lstore (pc + 1) ls st h i
  | .astore i => mm_astore (pc + 2) ls st h i
  | .astore_n i => mm_astore (pc + 1) ls st h i
  | .iinc i c => mm_iinc (pc + 3) ls st h i c
  | .iadd => mm_bin (pc + 1) ls st h (fun x y => mm_w32 (x + y))
  | .isub => mm_bin (pc + 1) ls st h (fun x y => mm_w32 (x - y))
  | .imul => mm_bin (pc + 1) ls st h (fun x y => mm_w32 (x * y))
  | .iand => mm_bin (pc + 1) ls st h (mm_s32 (fun x y => x &&& y))
  | .ior => mm_bin (pc + 1) ls st h (mm_s32 (fun x y => x ||| y))
  | .ishl => mm_bin (pc + 1) ls st h (mm_s32 (fun x y => x <<< (y &&& 31)))
  | .ishr => mm_bin (pc + 1) ls st h (mm_s32 (fun x y => x >>> (y &&& 31)))
  | .idiv => mm_binz (pc + 1) ls st h (fun x y => mm_w32 (Int.tdiv x y))
  | .irem => mm_binz (pc + 1) ls st h (fun x y => Int.tmod x y)
  | .ladd => mm_lbin (pc + 1) ls st h (fun x y => mm_w64 (x + y))
  | .lsub => mm_lbin (pc + 1) ls st h (fun x y => mm_w64 (x - y))
  | .lmul => mm_lbin (pc + 1) ls st h (fun x y => mm_w64 (x * y))
  | .land => mm_lbin (pc + 1) ls st h (mm_s64 (fun x y => x &&& y))
  | .lor => mm_lbin (pc + 1) ls st h (mm_s64 (fun x y => x ||| y))
  | .ldiv => mm_lbinz (pc + 1) ls st h (fun x y => mm_w64 (Int.tdiv x y))
  | .lrem => mm_lbinz (pc + 1) ls st h (fun x y => Int.tmod x y)
  | .lshl => mm_lsh (pc + 1) ls st h mm_lshl1
  | .lshr => mm_lsh (pc + 1) ls st h mm_lshr1
  | .lushr => mm_lsh (pc + 1) ls st h mm_lushr1
  | .i2b => mm_un (pc + 1) ls st h mm_w8
  | .i2l => mm_i2l (pc + 1) ls st h
  | .l2i => mm_l2i (pc + 1) ls st h
  | .lcmp => mm_lcmp (pc + 1) ls st h
  | .ifCond c _ => mm_if c I.2.2.2.1 (pc + 3) ls st h
  | .if_icmp c _ => mm_icmp c I.2.2.2.1 (pc + 3) ls st h
  | .goto _ => some (.inl (I.2.2.2.1, ls, st, h))
  | .tableswitch d lo hi offs => mm_switch pc d lo hi offs ls st h
  | .dup => mm_dup (pc + 1) ls st h
  | .dup2 => mm_dup2 (pc + 1) ls st h
  | .pop => mm_pop (pc + 1) ls st h
  | .getfield _ => mm_getf (pc + 3) ls st h I.2.2.2.1 I.2.2.2.2.1
  | .putfield _ => mm_putf (pc + 3) ls st h I.2.2.2.1 I.2.2.2.2.1 I.2.2.1
  | .iaload => mm_iald (pc + 1) ls st h
  | .baload => mm_bald (pc + 1) ls st h
  | .iastore => mm_iast (pc + 1) ls st h
  | .bastore => mm_bast (pc + 1) ls st h
  | .arraylength => mm_alen (pc + 1) ls st h
  | .newarray t => mm_newa (pc + 2) ls st h (mm_aty t)
  | .new _ => mm_new (pc + 3) ls st h I.2.2.2.1 (mm_blank I.2.2.2.1)
  | .invokestatic _ => mm_callS (pc + 3) ls st h I.2.2.2.1 I.2.2.2.2.1
  | .invokevirtual _ => mm_callV (pc + 3) ls st h I.2.2.2.1 I.2.2.2.2.1 I.2.2.1.toNat
  | .invokespecial _ => if I.2.2.2.2.1 = 1000 then mm_objInit (pc + 3) ls st h else mm_callI (pc + 3) ls st h I.2.2.2.1 I.2.2.2.2.1
  | .ireturn => mm_iret st h I.2.2.1
  | .areturn => mm_aret st h
  | .return_ => match st with
    | [] => some (.inr (.inl (none, h)))
    | _ => none
  | _ => none
