/-! a small machine over places: an object or row has a number, its fields and items are numbers by (place, k) -/
abbrev am_M : Type := (Nat → Nat → Int32) × (Nat → Nat → Int64) × (Nat → Nat → Option Nat) × (Nat → Nat × Nat) × Nat × Nat
/-- pc, instruction, what the program that wrote the table found out of it -/
abbrev am_A : Type := Nat × Instr × List Nat
/-- a method: name, bytes, number of its variables, what it answers, its class's name, its table -/
abbrev am_I : Type := MethodName × ByteArray × Nat × Option FieldType × String × List am_A
def am_R0 : Nat := 9
def am_junk : Value := .retAddr 0
def am_isJ : Value → Bool
  | .retAddr _ => true
  | _ => false
def am_fty : Nat → Nat → FieldType
  | 0 => tyX0 | 1 => tyX1 | 2 => tyX2 | 3 => tyX3 | 4 => tyX4 | 5 => tyX5 | 6 => tyX6 | _ => tyX7
def am_fnum : Nat → Nat
  | 0 => 10 | 1 => 4 | 2 => 3 | 3 => 5 | 4 => 7 | 5 => 3 | 6 => 17 | _ => 81
def am_fT : Nat → u_T
  | 0 => TX0 | 1 => TX1 | 2 => TX2 | 3 => TX3 | 4 => TX4 | 5 => TX5 | 6 => TX6 | _ => TX7
def am_cn : Nat → String
  | 0 => RX0 | 1 => RX1 | 2 => RX2 | 3 => RX3 | 4 => RX4 | 5 => RX5 | 6 => RX6 | _ => RX7
def am_tys : Nat → FieldType
  | 0 => .int | 1 => .long | 2 => .byte | 3 => .boolean | 4 => .object RX1 | 5 => .object RX5 | _ => .object RX0
def am_rd (ad : Nat → Nat) (M : am_M) (p k : Nat) : FieldType → Value
  | .long => .long (M.2.1 p k)
  | .object _ => va_rf ((M.2.2.1 p k).map ad)
  | .array _ => va_rf ((M.2.2.1 p k).map ad)
  | _ => .int (M.1 p k)
def am_up {α : Type} (f : Nat → Nat → α) (p k : Nat) (x : α) : Nat → Nat → α := fun q j => if q = p ∧ j = k then x else f q j
def am_wr (M : am_M) (p k : Nat) : Value → am_M
  | .int x => (am_up M.1 p k x, M.2)
  | .long x => (M.1, am_up M.2.1 p k x, M.2.2)
  | .ref q => (M.1, M.2.1, am_up M.2.2.1 p k (some q), M.2.2.2)
  | _ => (M.1, M.2.1, am_up M.2.2.1 p k none, M.2.2.2)
def am_okv : FieldType → Value → Bool
  | .int, .int _ => true
  | .long, .long _ => true
  | .boolean, .int x => x == 0 || x == 1
  | .object _, .ref _ => true
  | .array _, .ref _ => true
  | _, _ => false
def am_nar : Nat → Int32 → Int32
  | 102, x => vp_nar .byte x
  | 103, x => vp_nar .boolean x
  | _, x => x
def am_inv (ls : List Value) : Nat → List Value
  | 0 => ls
  | i + 1 => match ls[i]? with
    | some v => if v.category = 2 then ls.set i am_junk else ls
    | none => ls
def am_set1 (ls : List Value) (i : Nat) (v : Value) : Option (List Value) := if i < ls.length then some ((am_inv ls i).set i v) else none
def am_set2 (ls : List Value) (i : Nat) (v : Value) : Option (List Value) := if i + 1 < ls.length then some (((am_inv ls i).set i v).set (i + 1) am_junk) else none
def am_sh (M : am_M) (p : Nat) : Nat × Nat := M.2.2.2.1 p
def am_nx (M : am_M) : Nat := M.2.2.2.2.1
def am_us (M : am_M) : Nat := M.2.2.2.2.2
def am_new (M : am_M) (tag n : Nat) (cost : Nat) : am_M := (M.1, M.2.1, M.2.2.1, (fun p => if p = M.2.2.2.2.1 then (tag, n) else M.2.2.2.1 p), M.2.2.2.2.1 + 1, M.2.2.2.2.2 + cost)
def am_look : List (Int × Int) → List Nat → Nat → Int → Nat
  | (a, _) :: ps, t :: ts, d, x => if x = a then t else am_look ps ts d x
  | _, _, d, _ => d
def am_bad (M : am_M) (p : Nat) (i : Int32) : Bool := decide (i < 0) || decide ((am_sh M p).2 ≤ i.toNatClampNeg)
def am_ld (M : am_M) (tag : Nat) (p : Nat) (i : Int32) (v : Value) (ls st : List Value) (pc : Nat) : Option (Nat × List Value × List Value × am_M) :=
  if (am_sh M p).1 = tag then (if am_bad M p i then none else some (pc + 1, ls, v :: st, M)) else none
def am_sv (M : am_M) (tag : Nat) (p : Nat) (i : Int32) (v : Value) (ls st : List Value) (pc : Nat) : Option (Nat × List Value × List Value × am_M) :=
  if (am_sh M p).1 = tag ∧ am_R0 ≤ p then (if am_bad M p i then none else some (pc + 1, ls, st, am_wr M p i.toNatClampNeg v)) else none
abbrev am_R : Type := Option (Nat × List Value × List Value × am_M)
def am_cond : Jvm.ClassFile.Cond → Int32 → Int32 → Bool
  | .eq, x, y => decide (x = y)
  | .ne, x, y => !decide (x = y)
  | .lt, x, y => decide (x < y)
  | .ge, x, y => decide (y ≤ x)
  | .gt, x, y => decide (y < x)
  | .le, x, y => decide (x ≤ y)
def am_ldL (ls st : List Value) (i pc : Nat) (M : am_M) (k : Nat) : am_R :=
  match ls[i]?, k with
  | some (.int x), 0 => some (pc + 1, ls, .int x :: st, M)
  | some (.long x), 1 => some (pc + 1, ls, .long x :: st, M)
  | some (.ref x), 2 => some (pc + 1, ls, .ref x :: st, M)
  | some .null, 2 => some (pc + 1, ls, .null :: st, M)
  | _, _ => none
def am_stL (ls st : List Value) (i pc : Nat) (M : am_M) (k : Nat) : am_R :=
  match st, k with
  | .int x :: st, 0 => (am_set1 ls i (.int x)).map fun ls' => (pc + 1, ls', st, M)
  | .long x :: st, 1 => (am_set2 ls i (.long x)).map fun ls' => (pc + 1, ls', st, M)
  | .ref x :: st, 2 => (am_set1 ls i (.ref x)).map fun ls' => (pc + 1, ls', st, M)
  | .null :: st, 2 => (am_set1 ls i .null).map fun ls' => (pc + 1, ls', st, M)
  | _, _ => none
def am_step (ins : Instr) (aux : List Nat) (i : Nat) (ls st : List Value) (M : am_M) : am_R :=
  match ins, aux, st with
  | .iconst n, _, st => some (i + 1, ls, .int (Int32.ofInt n) :: st, M)
  | .bipush n, _, st => some (i + 1, ls, .int (Int8.ofInt n).toInt32 :: st, M)
  | .sipush n, _, st => some (i + 1, ls, .int (Int16.ofInt n).toInt32 :: st, M)
  | .lconst n, _, st => some (i + 1, ls, .long (Int64.ofNat (n : Nat)) :: st, M)
  | .aconst_null, _, st => some (i + 1, ls, .null :: st, M)
  | .ldc _, [0, c, _], st => some (i + 1, ls, .int (Int32.ofNat c) :: st, M)
  | .ldc _, [1, p], st => some (i + 1, ls, .ref p :: st, M)
  | .ldc_w _, [c, _], st => some (i + 1, ls, .int (Int32.ofNat c) :: st, M)
  | .ldc2_w _, [c, _], st => some (i + 1, ls, .long (Int64.ofNat c) :: st, M)
  | .iload_n k, _, st => am_ldL ls st k i M 0
  | .iload k, _, st => am_ldL ls st k i M 0
  | .lload_n k, _, st => am_ldL ls st k i M 1
  | .lload k, _, st => am_ldL ls st k i M 1
  | .aload_n k, _, st => am_ldL ls st k i M 2
  | .aload k, _, st => am_ldL ls st k i M 2
  | .istore_n k, _, st => am_stL ls st k i M 0
  | .istore k, _, st => am_stL ls st k i M 0
  | .lstore_n k, _, st => am_stL ls st k i M 1
  | .lstore k, _, st => am_stL ls st k i M 1
  | .astore_n k, _, st => am_stL ls st k i M 2
  | .astore k, _, st => am_stL ls st k i M 2
  | .iinc k n, _, st => match ls[k]? with
    | some (.int x) => (am_set1 ls k (.int (x + Int32.ofInt n))).map fun ls' => (i + 1, ls', st, M)
    | _ => none
  | .iadd, _, .int y :: .int x :: st => some (i + 1, ls, .int (x + y) :: st, M)
  | .isub, _, .int y :: .int x :: st => some (i + 1, ls, .int (x - y) :: st, M)
  | .imul, _, .int y :: .int x :: st => some (i + 1, ls, .int (x * y) :: st, M)
  | .iand, _, .int y :: .int x :: st => some (i + 1, ls, .int (x &&& y) :: st, M)
  | .ior, _, .int y :: .int x :: st => some (i + 1, ls, .int (x ||| y) :: st, M)
  | .ixor, _, .int y :: .int x :: st => some (i + 1, ls, .int (x ^^^ y) :: st, M)
  | .idiv, _, .int y :: .int x :: st => if y = 0 then none else some (i + 1, ls, .int (x / y) :: st, M)
  | .irem, _, .int y :: .int x :: st => if y = 0 then none else some (i + 1, ls, .int (x - x / y * y) :: st, M)
  | .ineg, _, .int x :: st => some (i + 1, ls, .int (-x) :: st, M)
  | .ishl, _, .int y :: .int x :: st => some (i + 1, ls, .int (x <<< (y &&& 31)) :: st, M)
  | .ishr, _, .int y :: .int x :: st => some (i + 1, ls, .int (x >>> (y &&& 31)) :: st, M)
  | .iushr, _, .int y :: .int x :: st => some (i + 1, ls, .int (x.toUInt32 >>> (y.toUInt32 &&& Int32.toUInt32 31)).toInt32 :: st, M)
  | .ladd, _, .long y :: .long x :: st => some (i + 1, ls, .long (x + y) :: st, M)
  | .lsub, _, .long y :: .long x :: st => some (i + 1, ls, .long (x - y) :: st, M)
  | .land, _, .long y :: .long x :: st => some (i + 1, ls, .long (x &&& y) :: st, M)
  | .lor, _, .long y :: .long x :: st => some (i + 1, ls, .long (x ||| y) :: st, M)
  | .lxor, _, .long y :: .long x :: st => some (i + 1, ls, .long (x ^^^ y) :: st, M)
  | .lshl, _, .int y :: .long x :: st => some (i + 1, ls, .long (x <<< (y.toInt64 &&& 63)) :: st, M)
  | .lshr, _, .int y :: .long x :: st => some (i + 1, ls, .long (x >>> (y.toInt64 &&& 63)) :: st, M)
  | .lcmp, _, .long y :: .long x :: st => some (i + 1, ls, .int (lg_cmp x y) :: st, M)
  | .i2l, _, .int x :: st => some (i + 1, ls, .long x.toInt64 :: st, M)
  | .l2i, _, .long x :: st => some (i + 1, ls, .int x.toInt32 :: st, M)
  | .i2b, _, .int x :: st => some (i + 1, ls, .int x.toInt8.toInt32 :: st, M)
  | .i2s, _, .int x :: st => some (i + 1, ls, .int x.toInt16.toInt32 :: st, M)
  | .dup, _, v :: st => if v.category = 1 then some (i + 1, ls, v :: v :: st, M) else none
  | .pop, _, v :: st => if v.category = 1 then some (i + 1, ls, st, M) else none
  | .dup2, _, v :: w :: st => if v.category = 1 ∧ w.category = 1 then some (i + 1, ls, v :: w :: v :: w :: st, M) else none
  | .goto _, [t], st => some (t, ls, st, M)
  | .ifCond c _, [t], .int x :: st => some (if am_cond c x 0 then t else i + 1, ls, st, M)
  | .if_icmp c _, [t], .int y :: .int x :: st => some (if am_cond c x y then t else i + 1, ls, st, M)
  | .ifnull _, [_], .ref _ :: st => some (i + 1, ls, st, M)
  | .ifnull _, [t], .null :: st => some (t, ls, st, M)
  | .ifnonnull _, [t], .ref _ :: st => some (t, ls, st, M)
  | .ifnonnull _, [_], .null :: st => some (i + 1, ls, st, M)
  | .tableswitch _ lo hi _, _ :: t :: ts, .int x :: st => some (if x.toInt < lo ∨ hi < x.toInt then t else ts.getD (x.toInt - lo).toNat 0, ls, st, M)
  | .lookupswitch _ ps, _ :: t :: ts, .int x :: st => some (am_look ps.toList ts t x.toInt, ls, st, M)
  | .getfield _, [ci, k, _], .ref p :: st => if (am_sh M p).1 = ci then some (i + 1, ls, am_rd (fun q => q) M p k (am_fty ci k) :: st, M) else none
  | .putfield _, [ci, k, _], v :: .ref p :: st => if (am_sh M p).1 = ci ∧ am_okv (am_fty ci k) v = true then some (i + 1, ls, st, am_wr M p k v) else none
  | .getstatic _, [p, _], st => some (i + 1, ls, .ref p :: st, M)
  | .iaload, _, .int j :: .ref p :: st => am_ld M 100 p j (.int (M.1 p j.toNatClampNeg)) ls st i
  | .laload, _, .int j :: .ref p :: st => am_ld M 101 p j (.long (M.2.1 p j.toNatClampNeg)) ls st i
  | .baload, [t], .int j :: .ref p :: st => am_ld M t p j (.int (M.1 p j.toNatClampNeg)) ls st i
  | .aaload, [t], .int j :: .ref p :: st => am_ld M t p j (va_rf (M.2.2.1 p j.toNatClampNeg)) ls st i
  | .iastore, _, .int x :: .int j :: .ref p :: st => am_sv M 100 p j (.int x) ls st i
  | .lastore, _, .long x :: .int j :: .ref p :: st => am_sv M 101 p j (.long x) ls st i
  | .bastore, [t], .int x :: .int j :: .ref p :: st => am_sv M t p j (.int (am_nar t x)) ls st i
  | .aastore, [t, ci], .ref v :: .int j :: .ref p :: st => if (am_sh M v).1 = ci then am_sv M t p j (.ref v) ls st i else none
  | .arraylength, _, .ref p :: st => if 100 ≤ (am_sh M p).1 ∧ (am_sh M p).1 ≤ 106 then some (i + 1, ls, .int (Int32.ofNat (am_sh M p).2) :: st, M) else none
  | .newarray _, [t, _], .int n :: st => if n < 0 ∨ 65536 < n.toNatClampNeg then none else some (i + 1, ls, .ref (am_nx M) :: st, am_new M (100 + t) n.toNatClampNeg n.toNatClampNeg)
  | .anewarray _, [t, _, _], .int n :: st => if n < 0 ∨ 65536 < n.toNatClampNeg then none else some (i + 1, ls, .ref (am_nx M) :: st, am_new M (100 + t) n.toNatClampNeg n.toNatClampNeg)
  | .new _, [ci, _, _, _], st => some (i + 1, ls, .ref (am_nx M) :: st, am_new M ci (am_fnum ci) (am_fnum ci))
  | _, _, _ => none
def am_lay : List Value → List Value
  | [] => []
  | v :: vs => if v.category = 2 then v :: am_junk :: am_lay vs else v :: am_lay vs
def am_entry (as : List Value) (n : Nat) : List Value := am_lay as ++ List.replicate (n - (am_lay as).length) am_junk
def am_ret : Instr → List Nat → List Value → Option (Option Value)
  | .return_, _, [] => some none
  | .ireturn, [0], [.int x] => some (some (.int x))
  | .ireturn, [1], [.int x] => if x = 0 ∨ x = 1 then some (some (.int x)) else none
  | .lreturn, _, [.long x] => some (some (.long x))
  | .areturn, _, [.ref p] => some (some (.ref p))
  | .areturn, _, [.null] => some (some .null)
  | _, _, _ => none
def am_isRet : Instr → Bool
  | .return_ | .ireturn | .lreturn | .areturn => true
  | _ => false
def am_isInv : Instr → Bool
  | .invokevirtual _ | .invokespecial _ | .invokestatic _ => true
  | _ => false
/-- what has no table of its own: Object's maker, the copy of rows, length and letters of the fixed texts -/
def am_prim (aux : List Nat) (i : Nat) (ls st : List Value) (M : am_M) : am_R :=
  match aux, st with
  | 4 :: _, .ref _ :: st => if (st.map fun v => v.category).sum ≤ 8 then some (i + 1, ls, st, M) else none
  | 5 :: t :: _, .int n :: .int dp :: .ref q :: .int sp :: .ref p :: st =>
    if (am_sh M p).1 = t ∧ (am_sh M q).1 = t ∧ am_R0 ≤ p ∧ am_R0 ≤ q ∧ ¬ sp < 0 ∧ ¬ dp < 0 ∧ ¬ n < 0 ∧ sp.toNatClampNeg + n.toNatClampNeg ≤ (am_sh M p).2 ∧ dp.toNatClampNeg + n.toNatClampNeg ≤ (am_sh M q).2 ∧ (st.map fun v => v.category).sum ≤ 8 then
      (match t with
      | 100 => some (i + 1, ls, st, ((fun a j => if a = q then va_cpy (M.1 p) (M.1 q) sp.toNatClampNeg dp.toNatClampNeg n.toNatClampNeg j else M.1 a j), M.2))
      | 101 => some (i + 1, ls, st, (M.1, (fun a j => if a = q then va_cpy (M.2.1 p) (M.2.1 q) sp.toNatClampNeg dp.toNatClampNeg n.toNatClampNeg j else M.2.1 a j), M.2.2))
      | _ => none)
    else none
  | 6 :: _, .int k :: .ref p :: st => if (am_sh M p).1 = 200 ∧ (st.map fun v => v.category).sum ≤ 8 then (if am_bad M p k then none else some (i + 1, ls, .int (M.1 p k.toNatClampNeg) :: st, M)) else none
  | 7 :: _, .ref p :: st => if (am_sh M p).1 = 200 ∧ (st.map fun v => v.category).sum ≤ 8 then some (i + 1, ls, .int (Int32.ofNat (am_sh M p).2) :: st, M) else none
  | _, _ => none
/-- a call of a method that has a table: its number, the arguments from the first on, what stays below -/
def am_call (aux : List Nat) (st : List Value) (M : am_M) : Option (Nat × List Value × List Value) :=
  match aux with
  | 1 :: mi :: n :: _ => if n ≤ st.length ∧ ((st.drop n).map fun v => v.category).sum ≤ 8 then some (mi, (st.take n).reverse, st.drop n) else none
  | kd :: mi :: n :: ci :: _ => if kd < 4 then (match st.drop n with
    | .ref p :: rest => if n ≤ st.length ∧ (am_sh M p).1 = ci ∧ (rest.map fun v => v.category).sum ≤ 8 then some (mi, .ref p :: (st.take n).reverse, rest) else none
    | _ => none) else none
  | _ => none
def am_run (P : Nat → Option am_I) : Nat → Nat → List am_A → Nat → List Value → List Value → am_M → Option (Option Value × am_M)
  | 0, _, _, _, _, _, _ => none
  | n + 1, d, co, i, ls, st, M =>
    match co[i]? with
    | none => none
    | some (_, ins, aux) =>
      if am_isRet ins then (am_ret ins aux st).map fun v => (v, M)
      else if am_isInv ins then
        (match am_call aux st M with
        | some (mi, as, rest) =>
          (match d, P mi with
          | d' + 1, some inf =>
            if (am_lay as).length ≤ inf.2.2.1 then
              (match am_run P n d' inf.2.2.2.2.2 0 (am_entry as inf.2.2.1) [] M with
              | some (v, M1) => am_run P n (d' + 1) co (i + 1) ls (v.toList ++ rest) M1
              | none => none)
            else none
          | _, _ => none)
        | none =>
          (match d, am_prim aux i ls st M with
          | d' + 7, some (i', ls', st', M') => am_run P n (d' + 7) co i' ls' st' M'
          | _, _ => none))
      else
        (match am_step ins aux i ls st M with
        | some (i', ls', st', M') => am_run P n d co i' ls' st' M'
        | none => none)
