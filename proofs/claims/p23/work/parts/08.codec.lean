/-- what an instruction must keep: its links, its places, its room -/
def xckq (o j pc : Nat) (i : Jvm.ClassFile.Instr) (a b : Nat) : Bool := match i with
  | .getfield x => xfl.any (fun q => Nat.beq q.1 o && Nat.beq q.2.1 x && Nat.beq q.2.2.1 a && Nat.beq q.2.2.2.1 b) && Nat.blt b (xfn a)
  | .putfield x => xfl.any (fun q => Nat.beq q.1 o && Nat.beq q.2.1 x && Nat.beq q.2.2.1 a && Nat.beq q.2.2.2.1 b) && Nat.blt b (xfn a) && (!(xcT a b).2.2.2 || (decide ((xyn j).name = "<init>") && decide ((xcT a b).1 = xon o)))
  | .new x => xcll.any (fun q => Nat.beq q.1 o && Nat.beq q.2.1 x && Nat.beq q.2.2.1 a)
  | .newarray .int => Nat.beq a 0
  | .newarray .long => Nat.beq a 1
  | .newarray .boolean => Nat.beq a 2
  | .anewarray x => xcll.any (fun q => Nat.beq q.1 o && Nat.beq q.2.1 x && Nat.beq q.2.2.1 (xoc a)) && Nat.ble 3 a && Nat.blt a 9
  | .arraylength => true
  | _ => false
def xckc (o j : Nat) (k a : Nat) (x : Nat) : Bool := xml.any (fun q => Nat.beq q.1 o && Nat.beq q.2.1 x && Nat.beq q.2.2.1 a && (Nat.beq q.2.2.2.1 0 || Nat.blt 2 k)) && Nat.blt a 131 && Nat.ble ((xrm a).1 + 1) (xrm j).1 && Nat.ble (8 + ((xTab a).2.2.1 + 11) + (xrm a).2) (xrm j).2 && xmw.any (fun q => Nat.beq q.1 a && (match k with
    | 2 => Nat.beq q.2.1 0 && !(Nat.beq q.2.2.2.2.1 9999) && Nat.beq (xow a) (xTab a).2.2.2
    | 3 => Nat.beq q.2.1 1
    | _ => Nat.beq q.2.1 0 && decide ((xyn a).name = "<init>") && decide (xre a = none)))
def xck (o j pc : Nat) (I : xI) : Bool := match I.1 with
  | 0 => decide (I.2.1 = .return_) && decide (xre j = none)
  | 1 => (match I.2.2.2.1 with
    | 0 => decide (I.2.1 = .ireturn) && decide (xre j = some .int)
    | 1 => decide (I.2.1 = .ireturn) && decide (xre j = some .boolean)
    | 2 => decide (I.2.1 = .lreturn) && decide (xre j = some .long)
    | _ => decide (I.2.1 = .areturn) && (match xre j with
      | some (.object _) => true
      | _ => false))
  | 2 => (match I.2.1 with
    | .invokevirtual x => xckc o j 2 I.2.2.2.1 x
    | _ => false)
  | 3 => (match I.2.1 with
    | .invokestatic x => xckc o j 3 I.2.2.2.1 x
    | _ => false)
  | 4 => (match I.2.1 with
    | .invokespecial x => xckc o j 4 I.2.2.2.1 x
    | _ => false)
  | 5 => (match I.2.1 with
    | .invokespecial x => xmo.any (fun q => Nat.beq q.1 o && Nat.beq q.2.1 x) && Nat.ble 1 (xrm j).1 && Nat.ble 20 (xrm j).2
    | _ => false)
  | 6 => (match I.2.1 with
    | .invokestatic x => xmn.any (fun q => Nat.beq q.1 o && Nat.beq q.2.1 x) && Nat.ble 1 (xrm j).1 && Nat.ble 21 (xrm j).2
    | _ => false)
  | 7 => (match I.2.1 with
    | .invokestatic x => xmx.any (fun q => Nat.beq q.1 o && Nat.beq q.2.1 x) && Nat.ble 1 (xrm j).1 && Nat.ble 21 (xrm j).2
    | _ => false)
  | 10 => (match I.2.1 with
    | .bipush _ => Nat.beq I.2.2.1 2
    | .sipush _ => Nat.beq I.2.2.1 3
    | .iload _ => Nat.beq I.2.2.1 2
    | .lload _ => Nat.beq I.2.2.1 2
    | .aload _ => Nat.beq I.2.2.1 2
    | .istore _ => Nat.beq I.2.2.1 2
    | .lstore _ => Nat.beq I.2.2.1 2
    | .astore _ => Nat.beq I.2.2.1 2
    | .iinc _ _ => Nat.beq I.2.2.1 3
    | _ => Nat.beq I.2.2.1 1)
  | 15 => (match I.2.1 with
    | .goto x => decide ((pc : Int) + x = (I.2.2.2.1 : Int)) && Nat.beq I.2.2.1 3
    | .ifCond _ x => decide ((pc : Int) + x = (I.2.2.2.1 : Int)) && Nat.beq I.2.2.1 3
    | .if_icmp _ x => decide ((pc : Int) + x = (I.2.2.2.1 : Int)) && Nat.beq I.2.2.1 3
    | .ifnull x => decide ((pc : Int) + x = (I.2.2.2.1 : Int)) && Nat.beq I.2.2.1 3
    | .ifnonnull x => decide ((pc : Int) + x = (I.2.2.2.1 : Int)) && Nat.beq I.2.2.1 3
    | _ => false)
  | 16 => (match I.2.1 with
    | .tableswitch d lo hi offs => decide (0 ≤ (pc : Int) + d) && offs.toList.all (fun x => decide (0 ≤ (pc : Int) + x)) && decide (hi = lo + (offs.toList.length : Int) - 1)
    | .lookupswitch d ps => decide (0 ≤ (pc : Int) + d) && ps.toList.all (fun x => decide (0 ≤ (pc : Int) + x.2)) && ((ps.toList.zip (ps.toList.drop 1)).all (fun (a, next) => a.1 < next.1))
    | _ => false)
  | 17 => (match I.2.1 with
    | .ldc x => Nat.beq I.2.2.1 2 && xld.any (fun q => Nat.beq q.1 o && Nat.beq q.2.1 x && Nat.beq q.2.2.1 I.2.2.2.1 && Nat.beq q.2.2.2.1 I.2.2.2.2)
    | .ldc_w x => Nat.beq I.2.2.1 3 && xld.any (fun q => Nat.beq q.1 o && Nat.beq q.2.1 x && Nat.beq q.2.2.1 I.2.2.2.1 && Nat.beq q.2.2.2.1 I.2.2.2.2)
    | _ => false)
  | 18 => (match I.2.1 with
    | .ldc2_w x => Nat.beq I.2.2.1 3 && xld2.any (fun q => Nat.beq q.1 o && Nat.beq q.2.1 x && Nat.beq q.2.2.1 I.2.2.2.1)
    | _ => false)
  | 20 => xckq o j pc I.2.1 I.2.2.2.1 I.2.2.2.2 && (match I.2.1 with
    | .newarray _ => Nat.beq I.2.2.1 2
    | .arraylength => Nat.beq I.2.2.1 1
    | _ => Nat.beq I.2.2.1 3)
  | _ => Nat.beq I.2.2.1 1
def xall (C : xC) : List (Nat × xI) := C.flatMap (fun q => q.2)
def xcks (j : Nat) : Bool := (xall (xTab j).1).all (fun q => xck (xow j) j q.1 q.2)
def xdks (j : Nat) : Bool := (xall (xTab j).1).all (fun q => decide (decode (xby j) q.1 = .ok (q.2.2.1, q.2.2.2.1)))
set_option maxRecDepth 100000 in
theorem xcks_0 : (List.range' 0 22).all xcks = true := by decide +kernel
set_option maxRecDepth 100000 in
theorem xcks_22 : (List.range' 22 22).all xcks = true := by decide +kernel
set_option maxRecDepth 100000 in
theorem xcks_44 : (List.range' 44 22).all xcks = true := by decide +kernel
set_option maxRecDepth 100000 in
theorem xcks_66 : (List.range' 66 22).all xcks = true := by decide +kernel
set_option maxRecDepth 100000 in
theorem xcks_88 : (List.range' 88 22).all xcks = true := by decide +kernel
set_option maxRecDepth 100000 in
theorem xcks_110 : (List.range' 110 21).all xcks = true := by decide +kernel
set_option maxRecDepth 100000 in
theorem xcks_131 : (List.range' 131 1).all xcks = true := by decide +kernel
