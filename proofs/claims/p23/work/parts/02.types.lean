/-! THE ABSTRACT MACHINE, its types and small tables -/
/-- a cell: an array (its tag, length, contents) or an object (its class's number, its fields) -/
abbrev xE : Type := (Nat × Nat × ((Nat → Int32) ⊕ (Nat → Int64) ⊕ (Nat → Option Nat))) ⊕ (Nat × List Value)
/-- cells made, their slots, the cells -/
abbrev xH : Type := Nat × Nat × (Nat → Option xE)
/-- place, locals, stack -/
abbrev xF : Type := Nat × List (Option Value) × List Value
def xldc (a b : Nat) : Int32 := bif Nat.beq b 1 then -(Int32.ofNat a) else Int32.ofNat a
/-- the types of fields -/
def xfty (a b : Nat) : FieldType := match a with
  | 0 => tyX0 b
  | 1 => tyX1 b
  | 2 => tyX2 b
  | 3 => tyX3 b
  | 4 => tyX4 b
  | 5 => tyX5 b
  | 6 => tyX6 b
  | 7 => tyX7 b
  | 8 => tyX8 b
  | 9 => tyX9 b
  | _ => .int
/-- how many fields -/
def xfn (a : Nat) : Nat := match a with
  | 0 => 2
  | 1 => 6
  | 2 => 13
  | 3 => 9
  | 4 => 3
  | 5 => 2
  | 6 => 2
  | 7 => 3
  | 8 => 10
  | 9 => 30
  | _ => 0
/-- the fields of a new object -/
def xfs (a : Nat) : List Value := (List.range (xfn a)).map (fun b => defaultValue (xfty a b))
/-- of which class the arrays of a tag are -/
def xoc (t : Nat) : Nat := match t with
  | 3 => 5
  | 4 => 7
  | 5 => 1
  | 6 => 6
  | 7 => 2
  | 8 => 4
  | _ => 99
abbrev xI : Type := Nat × Jvm.ClassFile.Instr × Nat × Nat × Nat
abbrev xC : Type := List (Nat × List (Nat × xI))
def xlk1 : List (Nat × xI) → Nat → Option xI
  | [], _ => none
  | (q, r) :: t, pc => bif Nat.beq q pc then some r else xlk1 t pc
def xlk2 : xC → Nat → Option xI
  | [], _ => none
  | (u, c) :: t, pc => bif Nat.blt pc u then xlk1 c pc else xlk2 t pc
