/-! THE ABSTRACT MACHINE: values are whole numbers and the numbers of cells; its instructions are the class files' own (decode); its words for what is linked are the tables of part 01 -/
abbrev am_V : Type := Int ⊕ (Int ⊕ Option Nat)
abbrev am_I (z : Int) : am_V := Sum.inl z
abbrev am_J (z : Int) : am_V := Sum.inr (Sum.inl z)
abbrev am_R (r : Nat) : am_V := Sum.inr (Sum.inr (some r))
abbrev am_Ls : Type := List (Option am_V)
/-- the cells' shapes, their references, their numbers -/
abbrev am_S : Type := List (Nat × Nat) × (Nat → Nat → Option Nat) × (Nat → Nat → Int)
/-- arrays that were there before: type (0: none), length, numbers -/
abbrev am_X0 : Type := Nat → Nat × Nat × (Nat → Int)
def am_s (z : Int) : Int := (Int32.ofInt z).toInt
def am_t (z : Int) : Int := (Int64.ofInt z).toInt
def am_cat : am_V → Nat
  | .inr (.inl _) => 2
  | _ => 1
def am_c (cv : Nat → Value) : am_V → Value
  | .inl z => .int (Int32.ofInt z)
  | .inr (.inl z) => .long (Int64.ofInt z)
  | .inr (.inr none) => .null
  | .inr (.inr (some r)) => cv r
/-- constants -/
def am_k (cn : Nat) (i : Instr) (len : Nat) : Option am_V := match i with
  | .iconst n => if len = 1 then some (.inl n) else none
  | .bipush n => if len = 2 then some (.inl (Int8.ofInt n).toInt) else none
  | .sipush n => if len = 3 then some (.inl (Int16.ofInt n).toInt) else none
  | .lconst n => if len = 1 then some (.inr (.inl ((n : Nat) : Int))) else none
  | .ldc x => if len = 2 then (match am_look am_pkL cn x with
    | some z => some (.inl z)
    | none => (am_look am_ptL cn x).map (fun k => am_R (2000 + k.1))) else none
  | .ldc_w x => if len = 3 then (am_look am_pkL cn x).map (fun z => .inl z) else none
  | .ldc2_w x => if len = 3 then (am_look am_plL cn x).map (fun z => .inr (.inl z)) else none
  | .getstatic x => if len = 3 then (am_look am_psL cn x).map (fun v => match v.1 with | .inl z => .inl z | .inr r => am_R r) else none
  | _ => none
def am_getI (ls : am_Ls) (k : Nat) : Option am_V := match ls[k]? with
  | some (some (.inl z)) => some (.inl z)
  | _ => none
def am_getJ (ls : am_Ls) (k : Nat) : Option am_V := match ls[k]? with
  | some (some (.inr (.inl z))) => some (.inr (.inl z))
  | _ => none
def am_getR (ls : am_Ls) (k : Nat) : Option am_V := match ls[k]? with
  | some (some (.inr (.inr z))) => some (.inr (.inr z))
  | _ => none
/-- loads of locals -/
def am_ld (i : Instr) (len : Nat) (ls : am_Ls) : Option am_V := match i with
  | .iload k => if len = 2 then am_getI ls k else none
  | .iload_n k => if len = 1 then am_getI ls k else none
  | .lload k => if len = 2 then am_getJ ls k else none
  | .lload_n k => if len = 1 then am_getJ ls k else none
  | .aload k => if len = 2 then am_getR ls k else none
  | .aload_n k => if len = 1 then am_getR ls k else none
  | _ => none
def am_kill (ls : am_Ls) (k : Nat) : am_Ls := match k with
  | 0 => ls
  | j + 1 => match ls[j]? with
    | some (some (.inr (.inl _))) => ls.set j none
    | _ => ls
def am_set1 (ls : am_Ls) (k : Nat) (v : am_V) : am_Ls := (am_kill ls k).set k (some v)
def am_set2 (ls : am_Ls) (k : Nat) (v : am_V) : am_Ls := ((am_kill ls k).set (k + 1) none).set k (some v)
/-- stores into locals -/
def am_sto (nL : Nat) (i : Instr) (len : Nat) (ls : am_Ls) (st : List am_V) : Option (am_Ls × List am_V) := match i, st with
  | .istore k, .inl z :: r => if len = 2 ∧ k < nL then some (am_set1 ls k (.inl z), r) else none
  | .istore_n k, .inl z :: r => if len = 1 ∧ (k : Nat) < nL then some (am_set1 ls k (.inl z), r) else none
  | .lstore k, .inr (.inl z) :: r => if len = 2 ∧ k + 1 < nL then some (am_set2 ls k (.inr (.inl z)), r) else none
  | .lstore_n k, .inr (.inl z) :: r => if len = 1 ∧ (k : Nat) + 1 < nL then some (am_set2 ls k (.inr (.inl z)), r) else none
  | .astore k, .inr (.inr z) :: r => if len = 2 ∧ k < nL then some (am_set1 ls k (.inr (.inr z)), r) else none
  | .astore_n k, .inr (.inr z) :: r => if len = 1 ∧ (k : Nat) < nL then some (am_set1 ls k (.inr (.inr z)), r) else none
  | .iinc k n, r => if len = 3 ∧ k < nL then (match ls[k]? with
    | some (some (.inl z)) => some (am_set1 ls k (.inl (z + n)), r)
    | _ => none) else none
  | _, _ => none
/-- two ints: below, above -/
def am_b2 (i : Instr) (a b : Int) : Option Int := match i with
  | .iadd => some (a + b)
  | .isub => some (a - b)
  | .imul => some (a * b)
  | .iand => some (Int32.ofInt a &&& Int32.ofInt b).toInt
  | .ior => some (Int32.ofInt a ||| Int32.ofInt b).toInt
  | .ixor => some (Int32.ofInt a ^^^ Int32.ofInt b).toInt
  | .ishl => some (Int32.ofInt a <<< (Int32.ofInt b &&& 31)).toInt
  | .ishr => some (Int32.ofInt a >>> (Int32.ofInt b &&& 31)).toInt
  | .iushr => some ((Int32.ofInt a).toUInt32 >>> ((Int32.ofInt b).toUInt32 &&& Int32.toUInt32 31)).toInt32.toInt
  | .idiv => if Int32.ofInt b = 0 then none else some (Int32.ofInt a / Int32.ofInt b).toInt
  | .irem => if Int32.ofInt b = 0 then none else some (Int32.ofInt a - Int32.ofInt a / Int32.ofInt b * Int32.ofInt b).toInt
  | _ => none
/-- two longs -/
def am_l2 (i : Instr) (a b : Int) : Option Int := match i with
  | .ladd => some (a + b)
  | .lsub => some (a - b)
  | .land => some (Int64.ofInt a &&& Int64.ofInt b).toInt
  | .lor => some (Int64.ofInt a ||| Int64.ofInt b).toInt
  | .lxor => some (Int64.ofInt a ^^^ Int64.ofInt b).toInt
  | _ => none
/-- a long by an int -/
def am_lsh (i : Instr) (a b : Int) : Option Int := match i with
  | .lshl => some (Int64.ofInt a <<< ((Int32.ofInt b).toInt64 &&& 63)).toInt
  | .lshr => some (Int64.ofInt a >>> ((Int32.ofInt b).toInt64 &&& 63)).toInt
  | .lushr => some ((Int64.ofInt a).toUInt64 >>> ((Int32.ofInt b).toInt64.toUInt64 &&& Int64.toUInt64 63)).toInt64.toInt
  | _ => none
/-- one int -/
def am_u1 (i : Instr) (a : Int) : Option Int := match i with
  | .ineg => some (-a)
  | .i2b => some (Int32.ofInt a).toInt8.toInt32.toInt
  | .i2s => some (Int32.ofInt a).toInt16.toInt32.toInt
  | .i2c => some ((Int32.ofInt a).toUInt32 % 65536).toInt32.toInt
  | _ => none
def am_lcmp (a b : Int) : Int := if am_t a < am_t b then -1 else if am_t a = am_t b then 0 else 1
/-- the stack alone; each of one byte -/
def am_stk (i : Instr) (st : List am_V) : Option (List am_V) := match i, st with
  | .dup, .inl a :: r => some (.inl a :: .inl a :: r)
  | .dup, .inr (.inr a) :: r => some (.inr (.inr a) :: .inr (.inr a) :: r)
  | .pop, .inl _ :: r => some r
  | .pop, .inr (.inr _) :: r => some r
  | .dup2, .inl a :: .inr (.inr b) :: r => some (.inl a :: .inr (.inr b) :: .inl a :: .inr (.inr b) :: r)
  | .i2l, .inl a :: r => some (.inr (.inl (am_s a)) :: r)
  | .l2i, .inr (.inl a) :: r => some (.inl a :: r)
  | .lcmp, .inr (.inl b) :: .inr (.inl a) :: r => some (.inl (am_lcmp a b) :: r)
  | i, .inl b :: .inl a :: r => (match am_b2 i a b with
    | some z => some (.inl z :: r)
    | none => (am_u1 i b).map (fun z => .inl z :: .inl a :: r))
  | i, .inr (.inl b) :: .inr (.inl a) :: r => (am_l2 i a b).map (fun z => .inr (.inl z) :: r)
  | i, .inl b :: .inr (.inl a) :: r => (match am_lsh i a b with
    | some z => some (.inr (.inl z) :: r)
    | none => (am_u1 i b).map (fun z => .inl z :: .inr (.inl a) :: r))
  | i, .inl b :: r => (am_u1 i b).map (fun z => .inl z :: r)
  | _, _ => none
def am_jmp (pc : Nat) (off : Int) : Option Nat := if 0 ≤ (pc : Int) + off then some ((pc : Int) + off).toNat else none
def am_cmp (c : Jvm.ClassFile.Cond) (a b : Int) : Prop := match c with
  | .eq => am_s a = am_s b
  | .ne => ¬ am_s a = am_s b
  | .lt => am_s a < am_s b
  | .ge => am_s b ≤ am_s a
  | .gt => am_s b < am_s a
  | .le => am_s a ≤ am_s b
def am_cmpb (c : Jvm.ClassFile.Cond) (a b : Int) : Bool := match c with
  | .eq => decide (am_s a = am_s b)
  | .ne => decide (¬ am_s a = am_s b)
  | .lt => decide (am_s a < am_s b)
  | .ge => decide (am_s b ≤ am_s a)
  | .gt => decide (am_s b < am_s a)
  | .le => decide (am_s a ≤ am_s b)
theorem am_cmpb_iff (c : Jvm.ClassFile.Cond) (a b : Int) : am_cmpb c a b = true ↔ am_cmp c a b := by cases c <;> simp [am_cmpb, am_cmp]
/-- branches -/
def am_br (i : Instr) (len pc : Nat) (st : List am_V) : Option (Nat × List am_V) := match i, st with
  | .ifCond c off, .inl a :: r => if len = 3 then (am_jmp pc off).map (fun t => (if am_cmpb c a 0 = true then t else pc + 3, r)) else none
  | .if_icmp c off, .inl b :: .inl a :: r => if len = 3 then (am_jmp pc off).map (fun t => (if am_cmpb c a b = true then t else pc + 3, r)) else none
  | .goto off, r => if len = 3 then (am_jmp pc off).map (fun t => (t, r)) else none
  | .tableswitch d lo hi os, .inl a :: r => if am_s a < lo ∨ hi < am_s a then (am_jmp pc d).map (fun t => (t, r)) else (match os[(am_s a - lo).toNat]? with
    | some off => (am_jmp pc off).map (fun t => (t, r))
    | none => none)
  | .lookupswitch d ps, .inl a :: r => if (ps.toList.zip (ps.toList.drop 1)).all (fun (a, next) => a.1 < next.1) = true then (am_jmp pc (Op.lookupswitch.offset ps.toList d (am_s a))).map (fun t => (t, r)) else none
  | _, _ => none
/-- what kind of thing a field holds: 0 an int, 1 a truth, 2 a reference -/
def am_fk (ci k : Nat) : Nat := match am_ty ci k with
  | .int => 0
  | .boolean => 1
  | .object _ => 2
  | .array _ => 2
  | _ => 3
def am_fin (ci k : Nat) : Bool := match am_cl[ci]? with
  | some q => (q.2.1 k).2.2.2
  | none => true
def am_fv (S : am_S) (ci r k : Nat) : am_V := if am_fk ci k = 2 then .inr (.inr (S.2.1 r k)) else .inl (S.2.2 r k)
def am_sM (S : am_S) (r k : Nat) (z : Int) : am_S := (S.1, S.2.1, fun a j => if a = r ∧ j = k then z else S.2.2 a j)
def am_sR (S : am_S) (r k : Nat) (o : Option Nat) : am_S := (S.1, fun a j => if a = r ∧ j = k then o else S.2.1 a j, S.2.2)
def am_nw (S : am_S) (sh : Nat × Nat) : am_S := (S.1 ++ [sh], fun a j => if a = S.1.length then none else S.2.1 a j, fun a j => if a = S.1.length then 0 else S.2.2 a j)
def am_arr (fx : am_X0) (S : am_S) (r : Nat) : Nat × Nat × (Nat → Int) := if r < 1000 then (match S.1[r]? with
  | some q => (q.1, q.2, S.2.2 r)
  | none => (0, 0, fun _ => 0)) else fx r
/-- fields of the Strings that were there before -/
def am_fo (cn x r : Nat) : Option am_V := if 2000 ≤ r ∧ r < 2012 then (match am_look am_pxL cn x with
  | some 0 => some (am_R (1000 + r))
  | some 1 => some (am_I 0)
  | _ => none) else none
def am_at (t : ArrayType) : Nat := match t with
  | .int => 100
  | .long => 101
  | .byte => 102
  | .boolean => 103
  | _ => 0
def am_in (j : Int) (n : Nat) : Bool := decide (0 ≤ am_s j) && decide (am_s j < n)
/-- the heap: length of the instruction, stack, cells, what may still be made -/
def am_hp (fx : am_X0) (cn : Nat) (ini : Bool) (i : Instr) (st : List am_V) (S : am_S) (cr : Nat × Nat) : Option (Nat × List am_V × am_S × (Nat × Nat)) := match i, st with
  | .getfield x, .inr (.inr (some r)) :: q => (match S.1[r]? with
    | some sh => (match am_look am_pfL cn x with
      | some f => if sh.1 = f.1 ∧ f.2 < sh.2 then some (3, am_fv S f.1 r f.2 :: q, S, cr) else none
      | none => none)
    | none => (am_fo cn x r).map (fun v => (3, v :: q, S, cr)))
  | .putfield x, .inl z :: .inr (.inr (some r)) :: q => (match S.1[r]? with
    | some sh => (match am_look am_pfL cn x with
      | some f => if sh.1 = f.1 ∧ f.2 < sh.2 ∧ am_fin f.1 f.2 = false ∧ (am_fk f.1 f.2 = 0 ∨ (am_fk f.1 f.2 = 1 ∧ (am_s z = 0 ∨ am_s z = 1))) then some (3, q, am_sM S r f.2 z, cr) else none
      | none => none)
    | none => none)
  | .putfield x, .inr (.inr o) :: .inr (.inr (some r)) :: q => (match S.1[r]? with
    | some sh => (match am_look am_pfL cn x with
      | some f => if sh.1 = f.1 ∧ f.2 < sh.2 ∧ am_fin f.1 f.2 = true ∧ ini = true ∧ cn = f.1 + 1 ∧ am_fk f.1 f.2 = 2 then some (3, q, am_sR S r f.2 o, cr) else none
      | none => none)
    | none => none)
  | .iaload, .inl j :: .inr (.inr (some r)) :: q => if (am_arr fx S r).1 = 100 ∧ am_in j (am_arr fx S r).2.1 = true then some (1, .inl ((am_arr fx S r).2.2 (am_s j).toNat) :: q, S, cr) else none
  | .baload, .inl j :: .inr (.inr (some r)) :: q => if ((am_arr fx S r).1 = 102 ∨ ((am_arr fx S r).1 = 103 ∧ r < 1000)) ∧ am_in j (am_arr fx S r).2.1 = true then some (1, .inl ((am_arr fx S r).2.2 (am_s j).toNat) :: q, S, cr) else none
  | .laload, .inl j :: .inr (.inr (some r)) :: q => if r < 1000 ∧ (am_arr fx S r).1 = 101 ∧ am_in j (am_arr fx S r).2.1 = true then some (1, .inr (.inl ((am_arr fx S r).2.2 (am_s j).toNat)) :: q, S, cr) else none
  | .aaload, .inl j :: .inr (.inr (some r)) :: q => if r < 1000 ∧ ((am_arr fx S r).1 = 200 ∨ (am_arr fx S r).1 = 201) ∧ am_in j (am_arr fx S r).2.1 = true ∧ (S.2.1 r (am_s j).toNat).all (fun v => decide (v < 1000)) = true then some (1, .inr (.inr (S.2.1 r (am_s j).toNat)) :: q, S, cr) else none
  | .arraylength, .inr (.inr (some r)) :: q => if 100 ≤ (am_arr fx S r).1 ∧ (am_arr fx S r).1 < 104 then some (1, .inl ((am_arr fx S r).2.1 : Int) :: q, S, cr) else none
  | .iastore, .inl z :: .inl j :: .inr (.inr (some r)) :: q => if r < 1000 ∧ (am_arr fx S r).1 = 100 ∧ am_in j (am_arr fx S r).2.1 = true then some (1, q, am_sM S r (am_s j).toNat z, cr) else none
  | .bastore, .inl z :: .inl j :: .inr (.inr (some r)) :: q => if r < 1000 ∧ am_in j (am_arr fx S r).2.1 = true then
      (if (am_arr fx S r).1 = 102 then some (1, q, am_sM S r (am_s j).toNat (Int32.ofInt z).toInt8.toInt32.toInt, cr) else if (am_arr fx S r).1 = 103 then some (1, q, am_sM S r (am_s j).toNat (Int32.ofInt z &&& 1).toInt, cr) else none) else none
  | .lastore, .inr (.inl z) :: .inl j :: .inr (.inr (some r)) :: q => if r < 1000 ∧ (am_arr fx S r).1 = 101 ∧ am_in j (am_arr fx S r).2.1 = true then some (1, q, am_sM S r (am_s j).toNat z, cr) else none
  | .aastore, .inr (.inr (some v)) :: .inl j :: .inr (.inr (some r)) :: q => (match S.1[v]? with
    | some sh => if r < 1000 ∧ (((am_arr fx S r).1 = 200 ∧ sh.1 = 7) ∨ ((am_arr fx S r).1 = 201 ∧ sh.1 = 6)) ∧ am_in j (am_arr fx S r).2.1 = true then some (1, q, am_sR S r (am_s j).toNat (some v), cr) else none
    | none => none)
  | .new x, q => (match am_look am_pnL cn x with
    | some ci => (match am_cl[ci]? with
      | some kc => if 1 ≤ cr.1 ∧ kc.2.2 ≤ cr.2 ∧ S.1.length < 1000 then some (3, am_R S.1.length :: q, am_nw S (ci, kc.2.2), (cr.1 - 1, cr.2 - kc.2.2)) else none
      | none => none)
    | none => none)
  | .newarray t, .inl n :: q => if 0 ≤ am_s n ∧ am_s n ≤ 1000000 ∧ 1 ≤ cr.1 ∧ (am_s n).toNat ≤ cr.2 ∧ S.1.length < 1000 ∧ am_at t ≠ 0 then some (2, am_R S.1.length :: q, am_nw S (am_at t, (am_s n).toNat), (cr.1 - 1, cr.2 - (am_s n).toNat)) else none
  | .anewarray x, .inl n :: q => (match am_look am_pnL cn x with
    | some ci => if (ci = 6 ∨ ci = 7) ∧ 0 ≤ am_s n ∧ am_s n ≤ 1000000 ∧ 1 ≤ cr.1 ∧ (am_s n).toNat ≤ cr.2 ∧ S.1.length < 1000 then some (3, am_R S.1.length :: q, am_nw S (if ci = 7 then 200 else 201, (am_s n).toNat), (cr.1 - 1, cr.2 - (am_s n).toNat)) else none
    | none => none)
  | _, _ => none
/-- a step that calls nothing and doesn't return: pc, locals, stack, cells, what may be made -/
def am_stp (fx : am_X0) (cn : Nat) (ini : Bool) (nL : Nat) (i : Instr) (len pc : Nat) (ls : am_Ls) (st : List am_V) (S : am_S) (cr : Nat × Nat) : Option (Nat × am_Ls × List am_V × am_S × (Nat × Nat)) :=
  match am_k cn i len with
  | some v => some (pc + len, ls, v :: st, S, cr)
  | none => match am_ld i len ls with
    | some v => some (pc + len, ls, v :: st, S, cr)
    | none => match am_sto nL i len ls st with
      | some q => some (pc + len, q.1, q.2, S, cr)
      | none => match (if len = 1 then am_stk i st else none) with
        | some q => some (pc + 1, ls, q, S, cr)
        | none => match am_br i len pc st with
          | some q => some (q.1, ls, q.2, S, cr)
          | none => match am_hp fx cn ini i st S cr with
            | some q => if len = q.1 then some (pc + q.1, ls, q.2.1, q.2.2.1, q.2.2.2) else none
            | none => none
/-- the way out of a method -/
def am_ret (rt : Option FieldType) (i : Instr) (len : Nat) (st : List am_V) : Option (List am_V) := if len = 1 then (match i, st with
  | .return_, [] => if rt = none then some [] else none
  | .ireturn, [.inl z] => (match rt with
    | some .int => some [.inl z]
    | some .boolean => if am_s z = 0 ∨ am_s z = 1 then some [.inl z] else none
    | some .char => if narrow .char (Value.int (Int32.ofInt z)) = Value.int (Int32.ofInt z) then some [.inl z] else none
    | some .byte => if narrow .byte (Value.int (Int32.ofInt z)) = Value.int (Int32.ofInt z) then some [.inl z] else none
    | _ => none)
  | .lreturn, [.inr (.inl z)] => if rt = some .long then some [.inr (.inl z)] else none
  | .areturn, [.inr (.inr z)] => (match rt with
    | some (.object _) => some [.inr (.inr z)]
    | _ => none)
  | _, _ => none) else none
/-- who is called, with what, over what rest: kinds 0 by an object, 1 a constructor, 2 static, 3 a nest mate's constructor -/
def am_pop (n : Nat) (st : List am_V) : List am_V × List am_V := ((st.take n).reverse, st.drop n)
def am_cal (cn : Nat) (i : Instr) : Option (Nat × Nat) := match i with
  | .invokevirtual x => (match am_look am_pmL cn x with
    | some (mj, 0) => some (mj, 0)
    | _ => none)
  | .invokespecial x => (match am_look am_pmL cn x with
    | some (mj, 1) => some (mj, 1)
    | some (mj, 3) => some (mj, 3)
    | _ => none)
  | .invokestatic x => (match am_look am_pmL cn x with
    | some (mj, 2) => some (mj, 2)
    | _ => none)
  | _ => none
def am_obj (cn : Nat) (i : Instr) : Bool := match i with
  | .invokespecial x => (am_look am_poL cn x).isSome
  | _ => false
/-- the receiver: an own object of the class, or a String of before -/
def am_rcv (S : am_S) (cn : Nat) (v : am_V) : Bool := match v with
  | .inr (.inr (some r)) => (match S.1[r]? with
    | some sh => decide (sh.1 + 1 = cn) && decide (sh.1 < 9)
    | none => decide (cn = 13) && decide (2000 ≤ r) && decide (r < 2012))
  | _ => false
def am_flat : List am_V → am_Ls
  | [] => []
  | .inr (.inl z) :: r => some (.inr (.inl z)) :: none :: am_flat r
  | v :: r => some v :: am_flat r
def am_ent (nL : Nat) (vs : List am_V) : am_Ls := am_flat vs ++ List.replicate (nL - (am_flat vs).length) none
def am_X (fx : am_X0) : Nat → Nat → Nat × Nat → Nat → Nat → am_Ls → List am_V → am_S → Option (List am_V × am_S)
  | 0, _, _, _, _, _, _, _ => none
  | n + 1, d, cr, mi, pc, ls, st, S =>
    match am_ms[mi]? with
    | none => none
    | some M =>
      match decode M.2.2.1 pc with
      | .error _ => none
      | .ok (i, len) =>
        match am_ret M.2.2.2.2.1 i len st with
        | some r => some (r, S)
        | none =>
          match am_stp fx M.1 M.2.2.2.2.2.1 M.2.2.2.1 i len pc ls st S cr with
          | some q => am_X fx n d q.2.2.2.2 mi q.1 q.2.1 q.2.2.1 q.2.2.2.1
          | none =>
            match d with
            | 0 => none
            | d' + 1 =>
              if len = 3 then
                if am_obj M.1 i = true then
                  match st with
                  | .inr (.inr (some r)) :: q => if r < 1000 ∧ (q.map am_cat).sum ≤ 8 then am_X fx n (d' + 1) cr mi (pc + 3) ls q S else none
                  | _ => none
                else
                  match am_cal M.1 i with
                  | none => none
                  | some c =>
                    match am_ms[c.1]? with
                    | none => none
                    | some N =>
                      if N.2.2.2.2.2.2.2.1 ≤ cr.1 ∧ N.2.2.2.2.2.2.2.2 ≤ cr.2 then
                        let k := N.2.2.2.2.2.2.1 + (if c.2 = 2 then 0 else 1)
                        let a := (am_pop k st).1
                        let q := (am_pop k st).2
                        if a.length = k ∧ (q.map am_cat).sum ≤ 8 ∧ (am_flat a).length ≤ N.2.2.2.1 ∧ (c.2 = 2 ∨ am_rcv S N.1 (a.headD (.inl 0)) = true) then
                          match am_X fx n d' N.2.2.2.2.2.2.2 c.1 0 (am_ent N.2.2.2.1 a) [] S with
                          | some o => if o.2.1.length = S.1.length + N.2.2.2.2.2.2.2.1 then am_X fx n (d' + 1) (cr.1 - N.2.2.2.2.2.2.2.1, cr.2 - N.2.2.2.2.2.2.2.2) mi (pc + 3) ls (o.1 ++ q) o.2 else none
                          | none => none
                        else none
                      else none
              else none
