/-! THE ABSTRACT MACHINE: bytecode over a small heap (addresses count from the first cell that the law makes; '.retAddr 0' stands for the law's script) -/
def xup (g : Nat → Option xE) (q : Nat) (e : xE) : Nat → Option xE := fun k => if k = q then some e else g k
def xput (h : xH) (q : Nat) (e : xE) : xH := (h.1, h.2.1, xup h.2.2 q e)
def xnew (h : xH) (n : Nat) (e : xE) : xH := (h.1 + 1, h.2.1 + n, xup h.2.2 h.1 e)
def xget (L : List (Option Value)) (i : Nat) : Option Value := match L[i]? with
  | some v => v
  | none => none
/-- a store clears the long whose second half stood there -/
def xcl (L : List (Option Value)) (i : Nat) : List (Option Value) := match i with
  | 0 => L
  | k + 1 => match xget L k with
    | some v => if v.category = 2 then L.set k none else L
    | none => L
def xset1 (L : List (Option Value)) (i : Nat) (v : Value) : List (Option Value) := (xcl L i).set i (some v)
def xset2 (L : List (Option Value)) (i : Nat) (v : Value) : List (Option Value) := ((xcl L i).set i (some v)).set (i + 1) none
def xisref (v : Value) : Bool := match v with
  | .null => true
  | .ref _ => true
  | .retAddr _ => true
  | _ => false
def xcnd (c : Jvm.ClassFile.Cond) (x y : Int32) : Bool := match c with
  | .eq => decide (x = y)
  | .ne => !decide (x = y)
  | .lt => decide (x < y)
  | .ge => decide (y ≤ x)
  | .gt => decide (y < x)
  | .le => decide (x ≤ y)
def xstore (L : List (Option Value)) (st : List Value) (pc len i : Nat) (ty : Nat) : Option xF := match ty, st with
  | 0, .int x :: r => if i < L.length then some (pc + len, xset1 L i (.int x), r) else none
  | 1, .long x :: r => if i + 1 < L.length then some (pc + len, xset2 L i (.long x), r) else none
  | 2, v :: r => if i < L.length then (if xisref v then some (pc + len, xset1 L i v, r) else none) else none
  | _, _ => none
def xload (L : List (Option Value)) (st : List Value) (pc len i : Nat) (ty : Nat) : Option xF := match ty, xget L i with
  | 0, some (.int x) => some (pc + len, L, .int x :: st)
  | 1, some (.long x) => some (pc + len, L, .long x :: st)
  | 2, some v => if xisref v then some (pc + len, L, v :: st) else none
  | _, _ => none
/-- constants and locals -/
def xp0 (i : Jvm.ClassFile.Instr) (len : Nat) (f : xF) : Option xF := match i with
  | .iconst n => some (f.1 + len, f.2.1, .int (Int32.ofInt n) :: f.2.2)
  | .bipush n => some (f.1 + len, f.2.1, .int (Int8.ofInt n).toInt32 :: f.2.2)
  | .sipush n => some (f.1 + len, f.2.1, .int (Int16.ofInt n).toInt32 :: f.2.2)
  | .lconst n => some (f.1 + len, f.2.1, .long (Int64.ofNat n.val) :: f.2.2)
  | .aconst_null => some (f.1 + len, f.2.1, .null :: f.2.2)
  | .iload i => xload f.2.1 f.2.2 f.1 len i 0
  | .iload_n i => xload f.2.1 f.2.2 f.1 len i.val 0
  | .lload i => xload f.2.1 f.2.2 f.1 len i 1
  | .lload_n i => xload f.2.1 f.2.2 f.1 len i.val 1
  | .aload i => xload f.2.1 f.2.2 f.1 len i 2
  | .aload_n i => xload f.2.1 f.2.2 f.1 len i.val 2
  | .istore i => xstore f.2.1 f.2.2 f.1 len i 0
  | .istore_n i => xstore f.2.1 f.2.2 f.1 len i.val 0
  | .lstore i => xstore f.2.1 f.2.2 f.1 len i 1
  | .lstore_n i => xstore f.2.1 f.2.2 f.1 len i.val 1
  | .astore i => xstore f.2.1 f.2.2 f.1 len i 2
  | .astore_n i => xstore f.2.1 f.2.2 f.1 len i.val 2
  | .iinc i n => match xget f.2.1 i with
    | some (.int x) => if i < f.2.1.length then some (f.1 + len, xset1 f.2.1 i (.int (x + Int32.ofInt n)), f.2.2) else none
    | _ => none
  | _ => none
/-- numbers: two ints, then two longs .. -/
def xp1 (i : Jvm.ClassFile.Instr) (f : xF) : Option xF := match f.2.2 with
  | .int y :: .int x :: r => (match i with
    | .iadd => some (f.1 + 1, f.2.1, .int (x + y) :: r)
    | .isub => some (f.1 + 1, f.2.1, .int (x - y) :: r)
    | .imul => some (f.1 + 1, f.2.1, .int (x * y) :: r)
    | .iand => some (f.1 + 1, f.2.1, .int (x &&& y) :: r)
    | .ior => some (f.1 + 1, f.2.1, .int (x ||| y) :: r)
    | .ixor => some (f.1 + 1, f.2.1, .int (x ^^^ y) :: r)
    | .idiv => if y = 0 then none else some (f.1 + 1, f.2.1, .int (x / y) :: r)
    | .irem => if y = 0 then none else some (f.1 + 1, f.2.1, .int (x - x / y * y) :: r)
    | .ishl => some (f.1 + 1, f.2.1, .int (x <<< (y &&& 31)) :: r)
    | .iushr => some (f.1 + 1, f.2.1, .int (x.toUInt32 >>> (y.toUInt32 &&& Int32.toUInt32 31)).toInt32 :: r)
    | _ => none)
  | _ => none
def xp2 (i : Jvm.ClassFile.Instr) (f : xF) : Option xF := match f.2.2 with
  | .long y :: .long x :: r => (match i with
    | .ladd => some (f.1 + 1, f.2.1, .long (x + y) :: r)
    | .lsub => some (f.1 + 1, f.2.1, .long (x - y) :: r)
    | .lmul => some (f.1 + 1, f.2.1, .long (x * y) :: r)
    | .land => some (f.1 + 1, f.2.1, .long (x &&& y) :: r)
    | .lor => some (f.1 + 1, f.2.1, .long (x ||| y) :: r)
    | .lxor => some (f.1 + 1, f.2.1, .long (x ^^^ y) :: r)
    | .lcmp => some (f.1 + 1, f.2.1, .int (lg_cmp x y) :: r)
    | _ => none)
  | _ => none
def xp3 (i : Jvm.ClassFile.Instr) (f : xF) : Option xF := match i, f.2.2 with
  | .ineg, .int x :: r => some (f.1 + 1, f.2.1, .int (-x) :: r)
  | .lneg, .long x :: r => some (f.1 + 1, f.2.1, .long (-x) :: r)
  | .i2l, .int x :: r => some (f.1 + 1, f.2.1, .long x.toInt64 :: r)
  | .l2i, .long x :: r => some (f.1 + 1, f.2.1, .int x.toInt32 :: r)
  | .lshl, .int y :: .long x :: r => some (f.1 + 1, f.2.1, .long (x <<< (y.toInt64 &&& 63)) :: r)
  | .lushr, .int y :: .long x :: r => some (f.1 + 1, f.2.1, .long (x.toUInt64 >>> (y.toInt64.toUInt64 &&& Int64.toUInt64 63)).toInt64 :: r)
  | _, _ => none
/-- the stack -/
def xp4 (i : Jvm.ClassFile.Instr) (f : xF) : Option xF := match i with
  | .dup => (match f.2.2 with
    | a :: r => if a.category = 1 then some (f.1 + 1, f.2.1, a :: a :: r) else none
    | _ => none)
  | .pop => (match f.2.2 with
    | a :: r => if a.category = 1 then some (f.1 + 1, f.2.1, r) else none
    | _ => none)
  | .pop2 => (match f.2.2 with
    | a :: r => if a.category = 2 then some (f.1 + 1, f.2.1, r) else none
    | _ => none)
  | .dup2 => (match f.2.2 with
    | a :: b :: r => if a.category = 1 ∧ b.category = 1 then some (f.1 + 1, f.2.1, a :: b :: a :: b :: r) else none
    | _ => none)
  | _ => none
/-- branches: a is the place -/
def xp5 (i : Jvm.ClassFile.Instr) (a : Nat) (f : xF) : Option xF := match i with
  | .goto _ => some (a, f.2.1, f.2.2)
  | .ifCond c _ => (match f.2.2 with
    | .int x :: r => some (bif xcnd c x 0 then a else f.1 + 3, f.2.1, r)
    | _ => none)
  | .if_icmp c _ => (match f.2.2 with
    | .int y :: .int x :: r => some (bif xcnd c x y then a else f.1 + 3, f.2.1, r)
    | _ => none)
  | .ifnull _ => (match f.2.2 with
    | .null :: r => some (a, f.2.1, r)
    | .ref _ :: r => some (f.1 + 3, f.2.1, r)
    | _ => none)
  | .ifnonnull _ => (match f.2.2 with
    | .null :: r => some (f.1 + 3, f.2.1, r)
    | .ref _ :: r => some (a, f.2.1, r)
    | _ => none)
  | _ => none
def xsw (pc : Nat) (dflt lo : Int) (offs : List Int) (x : Int32) : Nat := match (if x.toInt < lo then none else offs[(x.toInt - lo).toNat]?) with
  | some o => ((pc : Int) + o).toNat
  | none => ((pc : Int) + dflt).toNat
def xlw (pc : Nat) (dflt : Int) (x : Int32) : List (Int × Int) → Nat
  | [] => ((pc : Int) + dflt).toNat
  | (k, o) :: t => if x.toInt = k then ((pc : Int) + o).toNat else xlw pc dflt x t
def xp6 (i : Jvm.ClassFile.Instr) (f : xF) : Option xF := match f.2.2 with
  | .int x :: r => (match i with
    | .tableswitch d lo _ offs => some (xsw f.1 d lo offs.toList x, f.2.1, r)
    | .lookupswitch d ps => some (xlw f.1 d x ps.toList, f.2.1, r)
    | _ => none)
  | _ => none
abbrev xIn (i : Int32) (n : Nat) : Prop := 0 ≤ i.toInt ∧ i.toInt < (n : Int)
/-- a reference that is stored points where the field's type says -/
def xrok (h : xH) (t : Nat) (v : Value) : Bool := match v with
  | .ref q => (match h.2.2 q with
    | some (.inr (ci, _)) => Nat.beq ci t
    | some (.inl (tg, _, _)) => Nat.beq (20 + tg) t
    | none => false)
  | _ => true
/-- fields and new cells -/
def xq0 (i : Jvm.ClassFile.Instr) (a b : Nat) (f : xF) (h : xH) : Option (xF × xH) := match i with
  | .getfield _ => (match f.2.2 with
    | .ref q :: r => (match h.2.2 q with
      | some (.inr (ci, fs)) => if ci = a then (match fs[b]? with
        | some v => some ((f.1 + 3, f.2.1, v :: r), h)
        | none => none) else none
      | _ => none)
    | _ => none)
  | .putfield _ => (match f.2.2 with
    | v :: .ref q :: r => (match h.2.2 q with
      | some (.inr (ci, fs)) => if ci = a ∧ b < fs.length ∧ fits (xfty a b) v = true ∧ xrok h (xfcl a b) v = true then some ((f.1 + 3, f.2.1, r), xput h q (.inr (ci, fs.set b v))) else none
      | _ => none)
    | _ => none)
  | .new _ => some ((f.1 + 3, f.2.1, .ref h.1 :: f.2.2), xnew h (xfn a) (.inr (a, xfs a)))
  | .newarray _ => (match f.2.2 with
    | .int n :: r => if 0 ≤ n.toInt ∧ n.toInt ≤ 67108864 then (match a with
      | 0 => some ((f.1 + 2, f.2.1, .ref h.1 :: r), xnew h n.toNatClampNeg (.inl (0, n.toNatClampNeg, .inl (fun _ => 0))))
      | 1 => some ((f.1 + 2, f.2.1, .ref h.1 :: r), xnew h n.toNatClampNeg (.inl (1, n.toNatClampNeg, .inr (.inl (fun _ => 0)))))
      | 2 => some ((f.1 + 2, f.2.1, .ref h.1 :: r), xnew h n.toNatClampNeg (.inl (2, n.toNatClampNeg, .inl (fun _ => 0))))
      | _ => none) else none
    | _ => none)
  | .anewarray _ => (match f.2.2 with
    | .int n :: r => if 0 ≤ n.toInt ∧ n.toInt ≤ 67108864 then some ((f.1 + 3, f.2.1, .ref h.1 :: r), xnew h n.toNatClampNeg (.inl (a, n.toNatClampNeg, .inr (.inr (fun _ => none))))) else none
    | _ => none)
  | .arraylength => (match f.2.2 with
    | .ref q :: r => (match h.2.2 q with
      | some (.inl (t, n, _)) => if t < 9 then some ((f.1 + 1, f.2.1, .int (Int32.ofNat n) :: r), h) else none
      | _ => none)
    | _ => none)
  | _ => none
/-- arrays: loads -/
def xq1 (i : Jvm.ClassFile.Instr) (f : xF) (h : xH) : Option (xF × xH) := match f.2.2 with
  | .int j :: .ref q :: r => (match h.2.2 q with
    | some (.inl (t, n, c)) => if xIn j n then (match i with
      | .iaload => (match c with
        | .inl g => if t = 0 then some ((f.1 + 1, f.2.1, .int (g j.toNatClampNeg) :: r), h) else none
        | _ => none)
      | .baload => (match c with
        | .inl g => if t = 2 then some ((f.1 + 1, f.2.1, .int (g j.toNatClampNeg) :: r), h) else none
        | _ => none)
      | .laload => (match c with
        | .inr (.inl g) => if t = 1 then some ((f.1 + 1, f.2.1, .long (g j.toNatClampNeg) :: r), h) else none
        | _ => none)
      | .aaload => (match c with
        | .inr (.inr g) => if 3 ≤ t ∧ t < 9 then some ((f.1 + 1, f.2.1, va_rf (g j.toNatClampNeg) :: r), h) else none
        | _ => none)
      | _ => none) else none
    | _ => none)
  | _ => none
/-- arrays: stores -/
def xq2 (i : Jvm.ClassFile.Instr) (f : xF) (h : xH) : Option (xF × xH) := match f.2.2 with
  | v :: .int j :: .ref q :: r => (match h.2.2 q with
    | some (.inl (t, n, c)) => if xIn j n then (match i with
      | .iastore => (match c, v with
        | .inl g, .int x => if t = 0 then some ((f.1 + 1, f.2.1, r), xput h q (.inl (t, n, .inl (upd g j.toNatClampNeg x)))) else none
        | _, _ => none)
      | .bastore => (match c, v with
        | .inl g, .int x => if t = 2 then some ((f.1 + 1, f.2.1, r), xput h q (.inl (t, n, .inl (upd g j.toNatClampNeg (vp_nar .boolean x))))) else none
        | _, _ => none)
      | .lastore => (match c, v with
        | .inr (.inl g), .long x => if t = 1 then some ((f.1 + 1, f.2.1, r), xput h q (.inl (t, n, .inr (.inl (vp_updL g j.toNatClampNeg x))))) else none
        | _, _ => none)
      | .aastore => (match c, v with
        | .inr (.inr g), .null => if 3 ≤ t ∧ t < 9 then some ((f.1 + 1, f.2.1, r), xput h q (.inl (t, n, .inr (.inr (va_up g j.toNatClampNeg none))))) else none
        | .inr (.inr g), .ref p => (match h.2.2 p with
          | some (.inr (ci, _)) => if 3 ≤ t ∧ t < 9 ∧ ci = xoc t then some ((f.1 + 1, f.2.1, r), xput h q (.inl (t, n, .inr (.inr (va_up g j.toNatClampNeg (some p)))))) else none
          | _ => none)
        | _, _ => none)
      | _ => none) else none
    | _ => none)
  | _ => none
/-- the law's script -/
def xq3 (X : Nat × (Nat → Int32)) (i : Jvm.ClassFile.Instr) (f : xF) : Option xF := match i with
  | .arraylength => (match f.2.2 with
    | .retAddr _ :: r => some (f.1 + 1, f.2.1, .int (Int32.ofNat X.1) :: r)
    | _ => none)
  | .iaload => (match f.2.2 with
    | .int j :: .retAddr _ :: r => if xIn j X.1 then some (f.1 + 1, f.2.1, .int (X.2 j.toNatClampNeg) :: r) else none
    | _ => none)
  | _ => none
def xcat (st : List Value) : Nat := (st.map fun v => v.category).sum
/-- one step that is no call and no return: kind, instruction, length, two numbers -/
def xst (X : Nat × (Nat → Int32)) (I : xI) (f : xF) (h : xH) : Option (xF × xH) := match I.1 with
  | 10 => (xp0 I.2.1 I.2.2.1 f).map (fun g => (g, h))
  | 11 => (xp1 I.2.1 f).map (fun g => (g, h))
  | 12 => (xp2 I.2.1 f).map (fun g => (g, h))
  | 13 => (xp3 I.2.1 f).map (fun g => (g, h))
  | 14 => (xp4 I.2.1 f).map (fun g => (g, h))
  | 15 => (xp5 I.2.1 I.2.2.2.1 f).map (fun g => (g, h))
  | 16 => (xp6 I.2.1 f).map (fun g => (g, h))
  | 17 => some ((f.1 + I.2.2.1, f.2.1, .int (xldc I.2.2.2.1 I.2.2.2.2) :: f.2.2), h)
  | 18 => some ((f.1 + I.2.2.1, f.2.1, .long (Int64.ofNat I.2.2.2.1) :: f.2.2), h)
  | 20 => xq0 I.2.1 I.2.2.2.1 I.2.2.2.2 f h
  | 21 => xq1 I.2.1 f h
  | 22 => xq2 I.2.1 f h
  | 23 => (xq3 X I.2.1 f).map (fun g => (g, h))
  | 5 => (match f.2.2 with
    | .ref _ :: r => if xcat r ≤ 8 then some ((f.1 + 3, f.2.1, r), h) else none
    | _ => none)
  | 6 => (match f.2.2 with
    | .int y :: .int x :: r => if xcat r ≤ 8 then some ((f.1 + 3, f.2.1, .int (if y < x then y else x) :: r), h) else none
    | _ => none)
  | 7 => (match f.2.2 with
    | .int y :: .int x :: r => if xcat r ≤ 8 then some ((f.1 + 3, f.2.1, .int (if x < y then y else x) :: r), h) else none
    | _ => none)
  | _ => none
def xsl (vs : List Value) : List (Option Value) := vs.flatMap fun v => if v.category = 2 then [some v, none] else [some v]
def xent (n : Nat) (vs : List Value) : List (Option Value) := xsl vs ++ List.replicate (n - (xsl vs).length) none
/-- may the value be returned: 0 an int, 1 a boolean, 2 a long, 3 a reference -/
def xrt (a : Nat) (v : Value) : Bool := match a, v with
  | 0, .int _ => true
  | 1, .int x => x == 0 || x == 1
  | 2, .long _ => true
  | 3, .null => true
  | 3, .ref _ => true
  | _, _ => false
/-- may the call be made: kind, how many values, locals, class -/
def xcl0 (k ci : Nat) (vs : List Value) (h : xH) : Bool := match k, vs with
  | 2, .ref q :: _ => (match h.2.2 q with
    | some (.inr (c, _)) => Nat.beq c ci
    | _ => false)
  | 3, _ => true
  | 4, .ref _ :: _ => true
  | _, _ => false
