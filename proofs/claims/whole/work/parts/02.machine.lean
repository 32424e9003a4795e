/-! THE ABSTRACT MACHINE: resolved instructions over a list of cells; a reference is a place in that list. Tables (rc, mN, mB, mL, mR, mA, mC, cN, cT, cS, cF, zV ..) stand in 01.names. -/
abbrev AC : Type := (FieldType ⊕ Nat) × List Value
abbrev AH : Type := List AC
abbrev AL : Type := List (Option Value)
abbrev AS : Type := Nat × AL × List Value × AH
/-- a variable -/
def am_get (ls : AL) (i : Nat) : Option Value := match ls[i]? with
  | some (some v) => some v
  | _ => none
/-- the word before a stored one: half of a long goes -/
def am_kill : Option Value → Option Value
  | some (.long _) => none
  | some (.double _) => none
  | x => x
def am_kl (ls : AL) (j : Nat) : AL := match ls[j]? with
  | some o => ls.set j (am_kill o)
  | none => ls
def am_st1 (ls : AL) (i : Nat) (v : Value) : AL := match i with
  | 0 => ls.set 0 (some v)
  | j + 1 => (am_kl ls j).set (j + 1) (some v)
def am_st2 (ls : AL) (i : Nat) (v : Value) : AL := (am_st1 ls i v).set (i + 1) none
/-- arguments as variables -/
def am_en (as : List Value) : AL := as.flatMap fun v => if v.category = 2 then [some v, none] else [some v]
def am_entry (n : Nat) (as : List Value) : AL := am_en as ++ List.replicate (n - (am_en as).length) none
/-- the size of a heap, in fields and elements -/
def am_sz (h : AH) : Nat := (h.map fun c => c.2.length).sum
def am_cat (st : List Value) : Nat := (st.map fun v => v.category).sum
-- stack functions
def am_i (f : Int32 → Value) : List Value → Option (List Value)
  | .int x :: r => some (f x :: r)
  | _ => none
def am_l (f : Int64 → Value) : List Value → Option (List Value)
  | .long x :: r => some (f x :: r)
  | _ => none
def am_f (f : UInt32 → Value) : List Value → Option (List Value)
  | .float x :: r => some (f x :: r)
  | _ => none
def am_ii (f : Int32 → Int32 → Value) : List Value → Option (List Value)
  | .int y :: .int x :: r => some (f x y :: r)
  | _ => none
def am_ll (f : Int64 → Int64 → Value) : List Value → Option (List Value)
  | .long y :: .long x :: r => some (f x y :: r)
  | _ => none
def am_li (f : Int64 → Int32 → Value) : List Value → Option (List Value)
  | .int y :: .long x :: r => some (f x y :: r)
  | _ => none
def am_iid (f : Int32 → Int32 → Value) : List Value → Option (List Value)
  | .int y :: .int x :: r => if y = 0 then none else some (f x y :: r)
  | _ => none
def am_lld (f : Int64 → Int64 → Value) : List Value → Option (List Value)
  | .long y :: .long x :: r => if y = 0 then none else some (f x y :: r)
  | _ => none
def am_dup : List Value → Option (List Value)
  | a :: r => if a.category = 1 then some (a :: a :: r) else none
  | _ => none
def am_pop : List Value → Option (List Value)
  | a :: r => if a.category = 1 then some r else none
  | _ => none
def am_dupx1 : List Value → Option (List Value)
  | a :: b :: r => if a.category = 1 ∧ b.category = 1 then some (a :: b :: a :: r) else none
  | _ => none
def am_dupx2 : List Value → Option (List Value)
  | a :: b :: c :: r => if a.category = 1 ∧ b.category = 1 ∧ c.category = 1 then some (a :: b :: c :: a :: r) else none
  | _ => none
def am_dup2 : List Value → Option (List Value)
  | .long x :: r => some (.long x :: .long x :: r)
  | .int x :: .int y :: r => some (.int x :: .int y :: .int x :: .int y :: r)
  | .int x :: .ref y :: r => some (.int x :: .ref y :: .int x :: .ref y :: r)
  | _ => none
def am_c1 (c : ClassFile.Cond) (x : Int32) : Bool := match c with
  | .eq => decide (x = 0)
  | .ne => decide (¬ x = 0)
  | .lt => decide (x < 0)
  | .ge => decide (0 ≤ x)
  | .gt => decide (0 < x)
  | .le => decide (x ≤ 0)
def am_c2 (c : ClassFile.Cond) (x y : Int32) : Bool := match c with
  | .eq => decide (x = y)
  | .ne => decide (¬ x = y)
  | .lt => decide (x < y)
  | .ge => decide (y ≤ x)
  | .gt => decide (y < x)
  | .le => decide (x ≤ y)
/-- a branch: its new place and stack -/
def am_br (i : Instr) (nx : Nat) : List Value → Option (Nat × List Value)
  | st => match i with
    | .goto t => some (t.toNat, st)
    | .ifCond c t => (match st with
      | .int x :: r => some (if am_c1 c x then t.toNat else nx, r)
      | _ => none)
    | .if_icmp c t => (match st with
      | .int y :: .int x :: r => some (if am_c2 c x y then t.toNat else nx, r)
      | _ => none)
    | .ifnull t => (match st with
      | .null :: r => some (t.toNat, r)
      | .ref _ :: r => some (nx, r)
      | _ => none)
    | .ifnonnull t => (match st with
      | .null :: r => some (nx, r)
      | .ref _ :: r => some (t.toNat, r)
      | _ => none)
    | .lookupswitch d ps => (match st with
      | .int x :: r => some ((Op.lookupswitch.offset ps.toList d x.toInt).toNat, r)
      | _ => none)
    | _ => none
/-- a value in an array -/
def am_ald (ok : FieldType → Bool) (h : AH) : List Value → Option (List Value)
  | .int i :: .ref r :: rest => (match h[r]? with
    | some (.inl ty, vs) => if ok ty = true ∧ ¬ i < 0 then (match vs[i.toNatClampNeg]? with
      | some v => some (v :: rest)
      | none => none) else none
    | _ => none)
  | _ => none
/-- a place in an array that may be written -/
def am_ast (ok : FieldType → Bool) (h : AH) (r : Nat) (i : Int32) (v : FieldType → Value) : Option AH :=
  match h[r]? with
  | some (.inl ty, vs) => if ok ty = true ∧ ¬ i < 0 ∧ i.toNatClampNeg < vs.length ∧ sN ≤ r then some (h.set r (.inl ty, vs.set i.toNatClampNeg (v ty))) else none
  | _ => none
def am_isI (ty : FieldType) : Bool := match ty with
  | .int => true
  | _ => false
def am_isB (ty : FieldType) : Bool := match ty with
  | .byte => true
  | .boolean => true
  | _ => false
def am_isC (ty : FieldType) : Bool := match ty with
  | .char => true
  | _ => false
def am_isJ (ty : FieldType) : Bool := match ty with
  | .long => true
  | _ => false
def am_isO (ty : FieldType) : Bool := match ty with
  | .object _ => true
  | _ => false
/-- what a copy leaves -/
def am_cp (f g : List Value) (sp dp n : Nat) : List Value := g.take dp ++ (f.drop sp).take n ++ g.drop (dp + n)
def am_prim (ty : FieldType) : Bool := match ty with
  | .object _ => false
  | .array _ => false
  | _ => true
def am_copy (d : Nat) (h : AH) : List Value → Option (List Value × AH)
  | .int n :: .int dp :: .ref b :: .int sp :: .ref a :: rest => (match h[a]?, h[b]? with
    | some (.inl t0, f), some (.inl t1, g) =>
      if 1 ≤ d ∧ am_cat rest ≤ 8 ∧ t0 = t1 ∧ am_prim t0 = true ∧ ¬ n < 0 ∧ ¬ dp < 0 ∧ ¬ sp < 0 ∧ sp.toNatClampNeg + n.toNatClampNeg ≤ f.length ∧ dp.toNatClampNeg + n.toNatClampNeg ≤ g.length ∧ sN ≤ b then
        some (rest, h.set b (.inl t1, am_cp f g sp.toNatClampNeg dp.toNatClampNeg n.toNatClampNeg)) else none
    | _, _ => none)
  | _ => none
/-- a field's class and place -/
def am_fc (e : Nat) : Nat := e / 32
def am_fk (e : Nat) : Nat := e % 32
def am_getf (e : Nat) (h : AH) : List Value → Option (List Value)
  | .ref r :: rest => (match h[r]? with
    | some (.inr ci, fs) => if ci = am_fc e then (match fs[am_fk e]? with
      | some v => some (v :: rest)
      | none => none) else none
    | _ => none)
  | _ => none
def am_putf (e : Nat) (h : AH) : List Value → Option (List Value × AH)
  | v :: .ref r :: rest => (match h[r]? with
    | some (.inr ci, fs) => if ci = am_fc e ∧ am_fk e < fs.length ∧ sN ≤ r ∧ narrow (cF ci (am_fk e)) v = v ∧ fits (cF ci (am_fk e)) v = true then some (rest, h.set r (.inr ci, fs.set (am_fk e) v)) else none
    | _ => none)
  | _ => none
/-- a return: the answer -/
def am_ret (i : Instr) (st : List Value) : Option (Option Value) := match i with
  | .return_ => (match st with
    | [] => some none
    | _ => none)
  | .ireturn => (match st with
    | [.int v] => some (some (.int v))
    | _ => none)
  | .lreturn => (match st with
    | [.long v] => some (some (.long v))
    | _ => none)
  | .areturn => (match st with
    | [.ref v] => some (some (.ref v))
    | [.null] => some (some .null)
    | _ => none)
  | _ => none
/-- a call: the method, its arguments (the receiver first), the stack below -/
def am_call (i : Instr) (st : List Value) : Option (Nat × List Value × List Value) := match i with
  | .invokestatic cm => some (cm, (st.take (mA cm)).reverse, st.drop (mA cm))
  | .invokespecial cm => some (cm, (st.take (mA cm + 1)).reverse, st.drop (mA cm + 1))
  | .invokevirtual cm => some (cm, (st.take (mA cm + 1)).reverse, st.drop (mA cm + 1))
  | _ => none
/-- may it be called so? -/
def am_ok (i : Instr) (cm : Nat) (as rest : List Value) (h : AH) : Bool := match i with
  | .invokestatic _ => decide (as.length = mA cm ∧ (am_en as).length ≤ mL cm ∧ am_cat rest ≤ 8)
  | .invokespecial _ => (match as with
    | .ref _ :: _ => decide (as.length = mA cm + 1 ∧ (am_en as).length ≤ mL cm ∧ am_cat rest ≤ 8)
    | _ => false)
  | .invokevirtual _ => (match as with
    | .ref r :: _ => (match h[r]? with
      | some (.inr ci, _) => decide (ci = mC cm ∧ as.length = mA cm + 1 ∧ (am_en as).length ≤ mL cm ∧ am_cat rest ≤ 8)
      | _ => false)
    | _ => false)
  | _ => false
/-- a step that is no call and no return -/
def am_nx (pc len : Nat) (ls : AL) (h : AH) (o : Option (List Value)) : Option AS := match o with
  | some st' => some (pc + len, ls, st', h)
  | none => none
def am_nh (pc len : Nat) (ls : AL) (o : Option (List Value × AH)) : Option AS := match o with
  | some (st', h') => some (pc + len, ls, st', h')
  | none => none
def am_as (pc len : Nat) (ls : AL) (rest : List Value) (o : Option AH) : Option AS := match o with
  | some h' => some (pc + len, ls, rest, h')
  | none => none
def am_step (d : Nat) (i : Instr) (len pc : Nat) (ls : AL) (st : List Value) (h : AH) : Option AS := match i with
  | .aconst_null => am_nx pc len ls h (some (.null :: st))
  | .iconst n => am_nx pc len ls h (some (.int (Int32.ofInt n) :: st))
  | .ldc2_w n => am_nx pc len ls h (some (.long (Int64.ofNat n) :: st))
  | .ldc r => am_nx pc len ls h (some (.ref r :: st))
  | .nop => am_nx pc len ls h (some (.retAddr 0 :: st))
  | .getstatic k => am_nx pc len ls h (some (.int (zV k) :: st))
  | .iload j => (match am_get ls j with
    | some (.int x) => am_nx pc len ls h (some (.int x :: st))
    | _ => none)
  | .lload j => (match am_get ls j with
    | some (.long x) => am_nx pc len ls h (some (.long x :: st))
    | _ => none)
  | .aload j => (match am_get ls j with
    | some (.ref x) => am_nx pc len ls h (some (.ref x :: st))
    | some .null => am_nx pc len ls h (some (.null :: st))
    | _ => none)
  | .istore j => (match st with
    | .int x :: r => if j < ls.length then some (pc + len, am_st1 ls j (.int x), r, h) else none
    | _ => none)
  | .astore j => (match st with
    | .ref x :: r => if j < ls.length then some (pc + len, am_st1 ls j (.ref x), r, h) else none
    | .null :: r => if j < ls.length then some (pc + len, am_st1 ls j .null, r, h) else none
    | _ => none)
  | .lstore j => (match st with
    | .long x :: r => if j + 1 < ls.length then some (pc + len, am_st2 ls j (.long x), r, h) else none
    | _ => none)
  | .iinc j n => (match am_get ls j with
    | some (.int x) => if j < ls.length then some (pc + len, am_st1 ls j (.int (x + Int32.ofInt n)), st, h) else none
    | _ => none)
  | .iadd => am_nx pc len ls h (am_ii (fun x y => .int (x + y)) st)
  | .isub => am_nx pc len ls h (am_ii (fun x y => .int (x - y)) st)
  | .imul => am_nx pc len ls h (am_ii (fun x y => .int (x * y)) st)
  | .iand => am_nx pc len ls h (am_ii (fun x y => .int (x &&& y)) st)
  | .ior => am_nx pc len ls h (am_ii (fun x y => .int (x ||| y)) st)
  | .ixor => am_nx pc len ls h (am_ii (fun x y => .int (x ^^^ y)) st)
  | .ishl => am_nx pc len ls h (am_ii (fun x y => .int (x <<< (y &&& 31))) st)
  | .ishr => am_nx pc len ls h (am_ii (fun x y => .int (x >>> (y &&& 31))) st)
  | .iushr => am_nx pc len ls h (am_ii (fun x y => .int ((x.toUInt32 >>> (y.toUInt32 &&& Int32.toUInt32 31)).toInt32)) st)
  | .idiv => am_nx pc len ls h (am_iid (fun x y => .int (x / y)) st)
  | .irem => am_nx pc len ls h (am_iid (fun x y => .int (x - x / y * y)) st)
  | .ineg => am_nx pc len ls h (am_i (fun x => .int (-x)) st)
  | .ladd => am_nx pc len ls h (am_ll (fun x y => .long (x + y)) st)
  | .lsub => am_nx pc len ls h (am_ll (fun x y => .long (x - y)) st)
  | .lmul => am_nx pc len ls h (am_ll (fun x y => .long (x * y)) st)
  | .land => am_nx pc len ls h (am_ll (fun x y => .long (x &&& y)) st)
  | .lor => am_nx pc len ls h (am_ll (fun x y => .long (x ||| y)) st)
  | .lxor => am_nx pc len ls h (am_ll (fun x y => .long (x ^^^ y)) st)
  | .lcmp => am_nx pc len ls h (am_ll (fun x y => .int (lg_cmp x y)) st)
  | .ldiv => am_nx pc len ls h (am_lld (fun x y => .long (x / y)) st)
  | .lrem => am_nx pc len ls h (am_lld (fun x y => .long (x - x / y * y)) st)
  | .lneg => am_nx pc len ls h (am_l (fun x => .long (-x)) st)
  | .lshl => am_nx pc len ls h (am_li (fun x y => .long (x <<< (y.toInt64 &&& 63))) st)
  | .lshr => am_nx pc len ls h (am_li (fun x y => .long (x >>> (y.toInt64 &&& 63))) st)
  | .lushr => am_nx pc len ls h (am_li (fun x y => .long ((x.toUInt64 >>> (y.toInt64.toUInt64 &&& Int64.toUInt64 63)).toInt64)) st)
  | .i2l => am_nx pc len ls h (am_i (fun x => .long x.toInt64) st)
  | .l2i => am_nx pc len ls h (am_l (fun x => .int x.toInt32) st)
  | .i2b => am_nx pc len ls h (am_i (fun x => .int x.toInt8.toInt32) st)
  | .i2s => am_nx pc len ls h (am_i (fun x => .int x.toInt16.toInt32) st)
  | .i2c => am_nx pc len ls h (am_i (fun x => .int (x.toUInt32 % 65536).toInt32) st)
  | .i2f => am_nx pc len ls h (am_i (fun x => .float (FP.i2f x)) st)
  | .f2l => am_nx pc len ls h (am_f (fun x => .long (FP.f2l x)) st)
  | .dup => am_nx pc len ls h (am_dup st)
  | .pop => am_nx pc len ls h (am_pop st)
  | .dup_x1 => am_nx pc len ls h (am_dupx1 st)
  | .dup_x2 => am_nx pc len ls h (am_dupx2 st)
  | .dup2 => am_nx pc len ls h (am_dup2 st)
  | .iaload => am_nx pc len ls h (am_ald am_isI h st)
  | .baload => am_nx pc len ls h (am_ald am_isB h st)
  | .caload => am_nx pc len ls h (am_ald am_isC h st)
  | .laload => am_nx pc len ls h (am_ald am_isJ h st)
  | .aaload => am_nx pc len ls h (am_ald am_isO h st)
  | .arraylength => (match st with
    | .ref r :: rest => (match h[r]? with
      | some (.inl _, vs) => am_nx pc len ls h (some (.int (Int32.ofNat vs.length) :: rest))
      | _ => none)
    | _ => none)
  | .iastore => (match st with
    | .int x :: .int j :: .ref r :: rest => am_as pc len ls rest (am_ast am_isI h r j (fun _ => .int x))
    | _ => none)
  | .bastore => (match st with
    | .int x :: .int j :: .ref r :: rest => am_as pc len ls rest (am_ast am_isB h r j (fun ty => narrow ty (.int x)))
    | _ => none)
  | .castore => (match st with
    | .int x :: .int j :: .ref r :: rest => am_as pc len ls rest (am_ast am_isC h r j (fun ty => narrow ty (.int x)))
    | _ => none)
  | .lastore => (match st with
    | .long x :: .int j :: .ref r :: rest => am_as pc len ls rest (am_ast am_isJ h r j (fun _ => .long x))
    | _ => none)
  | .aastore => (match st with
    | .ref x :: .int j :: .ref r :: rest => (match h[x]? with
      | some (.inr ci, _) => am_as pc len ls rest (am_ast (fun ty => decide (ty = .object (cN ci))) h r j (fun _ => .ref x))
      | _ => none)
    | _ => none)
  | .getfield e => am_nx pc len ls h (am_getf e h st)
  | .putfield e => am_nh pc len ls (am_putf e h st)
  | .new ci => some (pc + len, ls, .ref h.length :: st, h ++ [(.inr ci, (List.range (cS ci)).map fun k => defaultValue (cF ci k))])
  | .newarray t => (match st with
    | .int n :: r => if ¬ n < 0 ∧ n.toNatClampNeg * componentBytes (newarray.typeOf t) ≤ 536870912 then some (pc + len, ls, .ref h.length :: r, h ++ [(.inl (newarray.typeOf t), List.replicate n.toNatClampNeg (defaultValue (newarray.typeOf t)))]) else none
    | _ => none)
  | .anewarray ci => (match st with
    | .int n :: r => if ¬ n < 0 ∧ n.toNatClampNeg * 4 ≤ 536870912 then some (pc + len, ls, .ref h.length :: r, h ++ [(.inl (.object (cN ci)), List.replicate n.toNatClampNeg .null)]) else none
    | _ => none)
  -- Math.max, Math.min, Math.abs
  | .dadd => (match st with
    | .int y :: .int x :: r => if 1 ≤ d ∧ am_cat r ≤ 8 then some (pc + len, ls, .int (if x < y then y else x) :: r, h) else none
    | _ => none)
  | .dsub => (match st with
    | .int y :: .int x :: r => if 1 ≤ d ∧ am_cat r ≤ 8 then some (pc + len, ls, .int (if y < x then y else x) :: r, h) else none
    | _ => none)
  | .dneg => (match st with
    | .long x :: r => if 1 ≤ d ∧ am_cat r ≤ 8 then some (pc + len, ls, .long (if 0 < x then x else -x) :: r, h) else none
    | _ => none)
  -- Object's constructor
  | .monitorenter => (match st with
    | .ref _ :: r => if 1 ≤ d ∧ am_cat r ≤ 8 then some (pc + len, ls, r, h) else none
    | _ => none)
  -- System.arraycopy
  | .monitorexit => am_nh pc len ls (am_copy d h st)
  | _ => (match am_br i (pc + len) st with
    | some (pc', st') => some (pc', ls, st', h)
    | none => none)
/-- may this method answer so? -/
def am_rv (v : Value) : Bool := match v with
  | .int _ => true
  | .long _ => true
  | .ref _ => true
  | .null => true
  | _ => false
def am_rok (t : Option FieldType) (r : Option Value) : Bool := match t, r with
  | none, none => true
  | some ty, some v => am_rv v && (decide (narrow ty v = v) && fits ty v)
  | _, _ => false
/-- the machine: depth of calls, steps, method, place -/
def am_run : Nat → Nat → Nat → Nat → AL → List Value → AH → Option (Option Value × AH)
  | _, 0, _, _, _, _, _ => none
  | d, n + 1, mid, pc, ls, st, h => match rc mid pc with
    | none => none
    | some (i, len) => match am_ret i st with
      | some r => if am_rok (mR mid) r = true then some (r, h) else none
      | none => match am_call i st with
        | some (cm, as, rest) => (match d with
          | 0 => none
          | d' + 1 => if am_ok i cm as rest h = true then (match am_run d' n cm 0 (am_entry (mL cm) as) [] h with
              | some (r, h1) => am_run (d' + 1) n mid (pc + len) ls (r.toList ++ rest) h1
              | none => none) else none)
        | none => match am_step d i len pc ls st h with
          | some (pc', ls', st', h') => am_run d n mid pc' ls' st' h'
          | none => none
