-- ===== PART A: goes FIRST, ahead of the names: the tables' words, and 'selects' of the private methods out of them =====
/-- a private method of a class that the tables say can be made, by its rows of tables_1 -/
def lw_okq (q : MethodName × Nat) : Prop := (q.1.cls ≠ "java/lang/invoke/MethodHandle" ∧ q.1.cls ≠ "java/lang/invoke/VarHandle") ∧ Cond.instantiable q.1.cls q.2 ∈ tables_1 ∧ Cond.privateMethod q.1 ∈ tables_1 ∧ Cond.instanceMethod q.1 ∈ tables_1
theorem lw_p0 : lw_okq (⟨"ToldHouse", "bring", "(LToldHouse$Happening;I)I"⟩, 10) := ⟨⟨by decide +kernel, by decide +kernel⟩, List.mem_of_getElem? (i := 14) (by decide +kernel), List.mem_of_getElem? (i := 213) (by decide +kernel), List.mem_of_getElem? (i := 214) (by decide +kernel)⟩
theorem lw_p1 : lw_okq (⟨"ToldHouse", "rowOf", "(I)LToldHouse$Row;"⟩, 10) := ⟨⟨by decide +kernel, by decide +kernel⟩, List.mem_of_getElem? (i := 14) (by decide +kernel), List.mem_of_getElem? (i := 217) (by decide +kernel), List.mem_of_getElem? (i := 218) (by decide +kernel)⟩
theorem lw_p2 : lw_okq (⟨"ToldHouse$Happening", "isAsItsKindAsks", "()Z"⟩, 13) := ⟨⟨by decide +kernel, by decide +kernel⟩, List.mem_of_getElem? (i := 148) (by decide +kernel), List.mem_of_getElem? (i := 234) (by decide +kernel), List.mem_of_getElem? (i := 235) (by decide +kernel)⟩
theorem lw_p3 : lw_okq (⟨"ToldHouse$Row", "makeRoom", "()V"⟩, 2) := ⟨⟨by decide +kernel, by decide +kernel⟩, List.mem_of_getElem? (i := 22) (by decide +kernel), List.mem_of_getElem? (i := 250) (by decide +kernel), List.mem_of_getElem? (i := 251) (by decide +kernel)⟩
theorem lw_p4 : lw_okq (⟨"ToldHouse$Judge", "tally", "(LToldHouse$Row;I)V"⟩, 9) := ⟨⟨by decide +kernel, by decide +kernel⟩, List.mem_of_getElem? (i := 39) (by decide +kernel), List.mem_of_getElem? (i := 266) (by decide +kernel), List.mem_of_getElem? (i := 267) (by decide +kernel)⟩
theorem lw_p5 : lw_okq (⟨"ToldHouse$Judge", "tallyKind", "(II)V"⟩, 9) := ⟨⟨by decide +kernel, by decide +kernel⟩, List.mem_of_getElem? (i := 39) (by decide +kernel), List.mem_of_getElem? (i := 291) (by decide +kernel), List.mem_of_getElem? (i := 292) (by decide +kernel)⟩
theorem lw_p6 : lw_okq (⟨"ToldHouse$Days", "takeOut", "(I)J"⟩, 2) := ⟨⟨by decide +kernel, by decide +kernel⟩, List.mem_of_getElem? (i := 45) (by decide +kernel), List.mem_of_getElem? (i := 311) (by decide +kernel), List.mem_of_getElem? (i := 312) (by decide +kernel)⟩
theorem lw_p7 : lw_okq (⟨"ToldHouse", "taking", "(III)LToldHouse$Happening;"⟩, 10) := ⟨⟨by decide +kernel, by decide +kernel⟩, List.mem_of_getElem? (i := 14) (by decide +kernel), List.mem_of_getElem? (i := 327) (by decide +kernel), List.mem_of_getElem? (i := 328) (by decide +kernel)⟩
theorem lw_p8 : lw_okq (⟨"ToldHouse", "isVoidByAll", "(LToldHouse$Happening;)Z"⟩, 10) := ⟨⟨by decide +kernel, by decide +kernel⟩, List.mem_of_getElem? (i := 14) (by decide +kernel), List.mem_of_getElem? (i := 336) (by decide +kernel), List.mem_of_getElem? (i := 337) (by decide +kernel)⟩
theorem lw_p9 : lw_okq (⟨"ToldHouse", "viewAt", "(I)LToldHouse$View;"⟩, 10) := ⟨⟨by decide +kernel, by decide +kernel⟩, List.mem_of_getElem? (i := 14) (by decide +kernel), List.mem_of_getElem? (i := 411) (by decide +kernel), List.mem_of_getElem? (i := 412) (by decide +kernel)⟩
theorem lw_p10 : lw_okq (⟨"ToldHouse", "settleFirst", "(I)V"⟩, 10) := ⟨⟨by decide +kernel, by decide +kernel⟩, List.mem_of_getElem? (i := 14) (by decide +kernel), List.mem_of_getElem? (i := 428) (by decide +kernel), List.mem_of_getElem? (i := 429) (by decide +kernel)⟩
theorem lw_p11 : lw_okq (⟨"ToldHouse$View", "rowAsked", "(LToldHouse$Happening;)I"⟩, 3) := ⟨⟨by decide +kernel, by decide +kernel⟩, List.mem_of_getElem? (i := 389) (by decide +kernel), List.mem_of_getElem? (i := 441) (by decide +kernel), List.mem_of_getElem? (i := 442) (by decide +kernel)⟩
theorem lw_p12 : lw_okq (⟨"ToldHouse", "doingAt", "(I)LToldHouse$Doing;"⟩, 10) := ⟨⟨by decide +kernel, by decide +kernel⟩, List.mem_of_getElem? (i := 14) (by decide +kernel), List.mem_of_getElem? (i := 490) (by decide +kernel), List.mem_of_getElem? (i := 491) (by decide +kernel)⟩
theorem lw_p13 : lw_okq (⟨"ToldHouse", "doNextLeg", "(LToldHouse$Doing;)I"⟩, 10) := ⟨⟨by decide +kernel, by decide +kernel⟩, List.mem_of_getElem? (i := 14) (by decide +kernel), List.mem_of_getElem? (i := 526) (by decide +kernel), List.mem_of_getElem? (i := 527) (by decide +kernel)⟩
theorem lw_p14 : lw_okq (⟨"ToldHouse", "undoLastLeg", "(LToldHouse$Doing;)I"⟩, 10) := ⟨⟨by decide +kernel, by decide +kernel⟩, List.mem_of_getElem? (i := 14) (by decide +kernel), List.mem_of_getElem? (i := 534) (by decide +kernel), List.mem_of_getElem? (i := 535) (by decide +kernel)⟩
theorem lw_p15 : lw_okq (⟨"ToldHouse", "senderAt", "(I)LToldHouse$Sender;"⟩, 10) := ⟨⟨by decide +kernel, by decide +kernel⟩, List.mem_of_getElem? (i := 14) (by decide +kernel), List.mem_of_getElem? (i := 549) (by decide +kernel), List.mem_of_getElem? (i := 550) (by decide +kernel)⟩
def lw_privs_1 : List (MethodName × Nat) := [(⟨"ToldHouse", "bring", "(LToldHouse$Happening;I)I"⟩, 10), (⟨"ToldHouse", "rowOf", "(I)LToldHouse$Row;"⟩, 10), (⟨"ToldHouse$Happening", "isAsItsKindAsks", "()Z"⟩, 13), (⟨"ToldHouse$Row", "makeRoom", "()V"⟩, 2), (⟨"ToldHouse$Judge", "tally", "(LToldHouse$Row;I)V"⟩, 9), (⟨"ToldHouse$Judge", "tallyKind", "(II)V"⟩, 9), (⟨"ToldHouse$Days", "takeOut", "(I)J"⟩, 2), (⟨"ToldHouse", "taking", "(III)LToldHouse$Happening;"⟩, 10), (⟨"ToldHouse", "isVoidByAll", "(LToldHouse$Happening;)Z"⟩, 10), (⟨"ToldHouse", "viewAt", "(I)LToldHouse$View;"⟩, 10), (⟨"ToldHouse", "settleFirst", "(I)V"⟩, 10), (⟨"ToldHouse$View", "rowAsked", "(LToldHouse$Happening;)I"⟩, 3), (⟨"ToldHouse", "doingAt", "(I)LToldHouse$Doing;"⟩, 10), (⟨"ToldHouse", "doNextLeg", "(LToldHouse$Doing;)I"⟩, 10), (⟨"ToldHouse", "undoLastLeg", "(LToldHouse$Doing;)I"⟩, 10), (⟨"ToldHouse", "senderAt", "(I)LToldHouse$Sender;"⟩, 10)]
theorem lw_r1 : ∀ q ∈ lw_privs_1, lw_okq q := List.forall_mem_cons.mpr ⟨lw_p0, List.forall_mem_cons.mpr ⟨lw_p1, List.forall_mem_cons.mpr ⟨lw_p2, List.forall_mem_cons.mpr ⟨lw_p3, List.forall_mem_cons.mpr ⟨lw_p4, List.forall_mem_cons.mpr ⟨lw_p5, List.forall_mem_cons.mpr ⟨lw_p6, List.forall_mem_cons.mpr ⟨lw_p7, List.forall_mem_cons.mpr ⟨lw_p8, List.forall_mem_cons.mpr ⟨lw_p9, List.forall_mem_cons.mpr ⟨lw_p10, List.forall_mem_cons.mpr ⟨lw_p11, List.forall_mem_cons.mpr ⟨lw_p12, List.forall_mem_cons.mpr ⟨lw_p13, List.forall_mem_cons.mpr ⟨lw_p14, List.forall_mem_cons.mpr ⟨lw_p15, fun _ h => absurd h List.not_mem_nil⟩⟩⟩⟩⟩⟩⟩⟩⟩⟩⟩⟩⟩⟩⟩⟩
theorem lw_p16 : lw_okq (⟨"ToldHouse", "firstThatCouldNotCome", "(LToldHouse$Happening;)I"⟩, 10) := ⟨⟨by decide +kernel, by decide +kernel⟩, List.mem_of_getElem? (i := 14) (by decide +kernel), List.mem_of_getElem? (i := 594) (by decide +kernel), List.mem_of_getElem? (i := 595) (by decide +kernel)⟩
theorem lw_p17 : lw_okq (⟨"ToldHouse", "couldComeInTrial", "(LToldHouse$Happening;)Z"⟩, 10) := ⟨⟨by decide +kernel, by decide +kernel⟩, List.mem_of_getElem? (i := 14) (by decide +kernel), List.mem_of_getElem? (i := 598) (by decide +kernel), List.mem_of_getElem? (i := 599) (by decide +kernel)⟩
theorem lw_p18 : lw_okq (⟨"ToldHouseModel", "comes", "(IIIIIIIII)I"⟩, 30) := ⟨⟨by decide +kernel, by decide +kernel⟩, List.mem_of_getElem? (i := 602) (by decide +kernel), List.mem_of_getElem? (i := 717) (by decide +kernel), List.mem_of_getElem? (i := 718) (by decide +kernel)⟩
theorem lw_p19 : lw_okq (⟨"ToldHouseModel", "of", "(II)I"⟩, 30) := ⟨⟨by decide +kernel, by decide +kernel⟩, List.mem_of_getElem? (i := 602) (by decide +kernel), List.mem_of_getElem? (i := 725) (by decide +kernel), List.mem_of_getElem? (i := 726) (by decide +kernel)⟩
theorem lw_p20 : lw_okq (⟨"ToldHouseModel", "gather", "(III)V"⟩, 30) := ⟨⟨by decide +kernel, by decide +kernel⟩, List.mem_of_getElem? (i := 602) (by decide +kernel), List.mem_of_getElem? (i := 729) (by decide +kernel), List.mem_of_getElem? (i := 730) (by decide +kernel)⟩
theorem lw_p21 : lw_okq (⟨"ToldHouseModel", "read", "(I)J"⟩, 30) := ⟨⟨by decide +kernel, by decide +kernel⟩, List.mem_of_getElem? (i := 602) (by decide +kernel), List.mem_of_getElem? (i := 733) (by decide +kernel), List.mem_of_getElem? (i := 734) (by decide +kernel)⟩
theorem lw_p22 : lw_okq (⟨"ToldHouseModel", "wrong", "()I"⟩, 30) := ⟨⟨by decide +kernel, by decide +kernel⟩, List.mem_of_getElem? (i := 602) (by decide +kernel), List.mem_of_getElem? (i := 738) (by decide +kernel), List.mem_of_getElem? (i := 739) (by decide +kernel)⟩
theorem lw_p23 : lw_okq (⟨"ToldHouseModel", "manyOf", "(I)I"⟩, 30) := ⟨⟨by decide +kernel, by decide +kernel⟩, List.mem_of_getElem? (i := 602) (by decide +kernel), List.mem_of_getElem? (i := 742) (by decide +kernel), List.mem_of_getElem? (i := 743) (by decide +kernel)⟩
theorem lw_p24 : lw_okq (⟨"ToldHouseModel", "sumTo", "(II)J"⟩, 30) := ⟨⟨by decide +kernel, by decide +kernel⟩, List.mem_of_getElem? (i := 602) (by decide +kernel), List.mem_of_getElem? (i := 746) (by decide +kernel), List.mem_of_getElem? (i := 747) (by decide +kernel)⟩
theorem lw_p25 : lw_okq (⟨"ToldHouseModel", "isHappening", "(I)Z"⟩, 30) := ⟨⟨by decide +kernel, by decide +kernel⟩, List.mem_of_getElem? (i := 602) (by decide +kernel), List.mem_of_getElem? (i := 762) (by decide +kernel), List.mem_of_getElem? (i := 763) (by decide +kernel)⟩
theorem lw_p26 : lw_okq (⟨"ToldHouseModel", "isView", "(I)Z"⟩, 30) := ⟨⟨by decide +kernel, by decide +kernel⟩, List.mem_of_getElem? (i := 602) (by decide +kernel), List.mem_of_getElem? (i := 794) (by decide +kernel), List.mem_of_getElem? (i := 795) (by decide +kernel)⟩
theorem lw_p27 : lw_okq (⟨"ToldHouseModel", "isRow", "(II)Z"⟩, 30) := ⟨⟨by decide +kernel, by decide +kernel⟩, List.mem_of_getElem? (i := 602) (by decide +kernel), List.mem_of_getElem? (i := 809) (by decide +kernel), List.mem_of_getElem? (i := 810) (by decide +kernel)⟩
theorem lw_p28 : lw_okq (⟨"ToldHouseModel", "makes", "(IIII)Z"⟩, 30) := ⟨⟨by decide +kernel, by decide +kernel⟩, List.mem_of_getElem? (i := 602) (by decide +kernel), List.mem_of_getElem? (i := 813) (by decide +kernel), List.mem_of_getElem? (i := 814) (by decide +kernel)⟩
theorem lw_p29 : lw_okq (⟨"ToldHouseModel", "isDoing", "(I)Z"⟩, 30) := ⟨⟨by decide +kernel, by decide +kernel⟩, List.mem_of_getElem? (i := 602) (by decide +kernel), List.mem_of_getElem? (i := 829) (by decide +kernel), List.mem_of_getElem? (i := 830) (by decide +kernel)⟩
theorem lw_p30 : lw_okq (⟨"ToldHouseModel", "forward", "(I)I"⟩, 30) := ⟨⟨by decide +kernel, by decide +kernel⟩, List.mem_of_getElem? (i := 602) (by decide +kernel), List.mem_of_getElem? (i := 841) (by decide +kernel), List.mem_of_getElem? (i := 842) (by decide +kernel)⟩
theorem lw_p31 : lw_okq (⟨"ToldHouseModel", "backward", "(I)I"⟩, 30) := ⟨⟨by decide +kernel, by decide +kernel⟩, List.mem_of_getElem? (i := 602) (by decide +kernel), List.mem_of_getElem? (i := 845) (by decide +kernel), List.mem_of_getElem? (i := 846) (by decide +kernel)⟩
def lw_privs_2 : List (MethodName × Nat) := [(⟨"ToldHouse", "firstThatCouldNotCome", "(LToldHouse$Happening;)I"⟩, 10), (⟨"ToldHouse", "couldComeInTrial", "(LToldHouse$Happening;)Z"⟩, 10), (⟨"ToldHouseModel", "comes", "(IIIIIIIII)I"⟩, 30), (⟨"ToldHouseModel", "of", "(II)I"⟩, 30), (⟨"ToldHouseModel", "gather", "(III)V"⟩, 30), (⟨"ToldHouseModel", "read", "(I)J"⟩, 30), (⟨"ToldHouseModel", "wrong", "()I"⟩, 30), (⟨"ToldHouseModel", "manyOf", "(I)I"⟩, 30), (⟨"ToldHouseModel", "sumTo", "(II)J"⟩, 30), (⟨"ToldHouseModel", "isHappening", "(I)Z"⟩, 30), (⟨"ToldHouseModel", "isView", "(I)Z"⟩, 30), (⟨"ToldHouseModel", "isRow", "(II)Z"⟩, 30), (⟨"ToldHouseModel", "makes", "(IIII)Z"⟩, 30), (⟨"ToldHouseModel", "isDoing", "(I)Z"⟩, 30), (⟨"ToldHouseModel", "forward", "(I)I"⟩, 30), (⟨"ToldHouseModel", "backward", "(I)I"⟩, 30)]
theorem lw_r2 : ∀ q ∈ lw_privs_2, lw_okq q := List.forall_mem_cons.mpr ⟨lw_p16, List.forall_mem_cons.mpr ⟨lw_p17, List.forall_mem_cons.mpr ⟨lw_p18, List.forall_mem_cons.mpr ⟨lw_p19, List.forall_mem_cons.mpr ⟨lw_p20, List.forall_mem_cons.mpr ⟨lw_p21, List.forall_mem_cons.mpr ⟨lw_p22, List.forall_mem_cons.mpr ⟨lw_p23, List.forall_mem_cons.mpr ⟨lw_p24, List.forall_mem_cons.mpr ⟨lw_p25, List.forall_mem_cons.mpr ⟨lw_p26, List.forall_mem_cons.mpr ⟨lw_p27, List.forall_mem_cons.mpr ⟨lw_p28, List.forall_mem_cons.mpr ⟨lw_p29, List.forall_mem_cons.mpr ⟨lw_p30, List.forall_mem_cons.mpr ⟨lw_p31, fun _ h => absurd h List.not_mem_nil⟩⟩⟩⟩⟩⟩⟩⟩⟩⟩⟩⟩⟩⟩⟩⟩
theorem lw_p32 : lw_okq (⟨"ToldHouseModel", "couldCome", "(I)Z"⟩, 30) := ⟨⟨by decide +kernel, by decide +kernel⟩, List.mem_of_getElem? (i := 602) (by decide +kernel), List.mem_of_getElem? (i := 866) (by decide +kernel), List.mem_of_getElem? (i := 867) (by decide +kernel)⟩
theorem lw_p33 : lw_okq (⟨"ToldHouseModel", "isRightTo", "(I)Z"⟩, 30) := ⟨⟨by decide +kernel, by decide +kernel⟩, List.mem_of_getElem? (i := 602) (by decide +kernel), List.mem_of_getElem? (i := 870) (by decide +kernel), List.mem_of_getElem? (i := 871) (by decide +kernel)⟩
def lw_privs_3 : List (MethodName × Nat) := [(⟨"ToldHouseModel", "couldCome", "(I)Z"⟩, 30), (⟨"ToldHouseModel", "isRightTo", "(I)Z"⟩, 30)]
theorem lw_r3 : ∀ q ∈ lw_privs_3, lw_okq q := List.forall_mem_cons.mpr ⟨lw_p32, List.forall_mem_cons.mpr ⟨lw_p33, fun _ h => absurd h List.not_mem_nil⟩⟩
def lw_privs : List (MethodName × Nat) := lw_privs_1 ++ (lw_privs_2 ++ (lw_privs_3))
def lw_tbl : List Cond := k2_sels lw_privs ++ tables_1
theorem lw_privs_ok : ∀ q ∈ lw_privs, lw_okq q := by
  show ∀ q ∈ lw_privs_1 ++ (lw_privs_2 ++ (lw_privs_3)), lw_okq q
  exact List.forall_mem_append.mpr ⟨lw_r1, List.forall_mem_append.mpr ⟨lw_r2, lw_r3⟩⟩
def RX0 : String := "ToldHouse$Days"
def TX0 : u_T := fun k => match k with
  | 0 => ("ToldHouse$Days", "amounts", "[J", true)
  | _ => ("ToldHouse$Days", "marks", "[J", true)
def tyX0 : Nat → FieldType := fun k => match k with
  | 0 => .array .long
  | _ => .array .long
abbrev wsX00 : List Cond := u_ws RX0 TX0 2
theorem nmX0 : ∀ a, a < 2 → ∀ b, b < 2 → a ≠ b → (TX0 a).2.1 ≠ (TX0 b).2.1 := by decide +kernel
theorem tyX0_ok : ∀ k, k < 2 → parseFieldDescriptor (TX0 k).2.2.1 = some (tyX0 k) := by decide +kernel
abbrev cX0_init : ByteArray := prog_2_method_1_code
def yX0_init : MethodName := ⟨RX0, "<init>", "()V"⟩
abbrev cX0_put : ByteArray := prog_2_method_2_code
def yX0_put : MethodName := ⟨RX0, "put", "(II)V"⟩
abbrev cX0_isBelowOnceAsEmptied : ByteArray := prog_2_method_3_code
def yX0_isBelowOnceAsEmptied : MethodName := ⟨RX0, "isBelowOnceAsEmptied", "()Z"⟩
abbrev cX0_takeOut : ByteArray := prog_2_method_4_code
def yX0_takeOut : MethodName := ⟨RX0, "takeOut", "(I)J"⟩
def RX1 : String := "ToldHouse$Doing"
def TX1 : u_T := fun k => match k with
  | 0 => ("ToldHouse$Doing", "by", "I", true)
  | 1 => ("ToldHouse$Doing", "how", "I", false)
  | 2 => ("ToldHouse$Doing", "legCount", "I", false)
  | 3 => ("ToldHouse$Doing", "done", "I", false)
  | 4 => ("ToldHouse$Doing", "undone", "I", false)
  | _ => ("ToldHouse$Doing", "legs", "[LToldHouse$Leg;", true)
def tyX1 : Nat → FieldType := fun k => match k with
  | 0 => .int
  | 1 => .int
  | 2 => .int
  | 3 => .int
  | 4 => .int
  | _ => .array (.object "ToldHouse$Leg")
abbrev wsX10 : List Cond := u_ws RX1 TX1 6
theorem nmX1 : ∀ a, a < 6 → ∀ b, b < 6 → a ≠ b → (TX1 a).2.1 ≠ (TX1 b).2.1 := by decide +kernel
theorem tyX1_ok : ∀ k, k < 6 → parseFieldDescriptor (TX1 k).2.2.1 = some (tyX1 k) := by decide +kernel
abbrev cX1_init : ByteArray := prog_3_method_1_code
def yX1_init : MethodName := ⟨RX1, "<init>", "(I)V"⟩
abbrev cX1_add : ByteArray := prog_3_method_2_code
def yX1_add : MethodName := ⟨RX1, "add", "(LToldHouse$Leg;)V"⟩
abbrev cX1_nth : ByteArray := prog_3_method_3_code
def yX1_nth : MethodName := ⟨RX1, "nth", "(I)LToldHouse$Leg;"⟩
def RX2 : String := "ToldHouse$Happening"
def TX2 : u_T := fun k => match k with
  | 0 => ("ToldHouse$Happening", "stream", "I", true)
  | 1 => ("ToldHouse$Happening", "by", "I", true)
  | 2 => ("ToldHouse$Happening", "index", "I", false)
  | 3 => ("ToldHouse$Happening", "number", "I", false)
  | 4 => ("ToldHouse$Happening", "kind", "I", false)
  | 5 => ("ToldHouse$Happening", "form", "I", false)
  | 6 => ("ToldHouse$Happening", "amount", "I", false)
  | 7 => ("ToldHouse$Happening", "key", "I", false)
  | 8 => ("ToldHouse$Happening", "so", "I", false)
  | 9 => ("ToldHouse$Happening", "known", "I", false)
  | 10 => ("ToldHouse$Happening", "ref", "I", false)
  | 11 => ("ToldHouse$Happening", "isVoid", "Z", false)
  | _ => ("ToldHouse$Happening", "mending", "LToldHouse$Happening;", false)
def tyX2 : Nat → FieldType := fun k => match k with
  | 0 => .int
  | 1 => .int
  | 2 => .int
  | 3 => .int
  | 4 => .int
  | 5 => .int
  | 6 => .int
  | 7 => .int
  | 8 => .int
  | 9 => .int
  | 10 => .int
  | 11 => .boolean
  | _ => .object "ToldHouse$Happening"
abbrev wsX20 : List Cond := u_ws RX2 TX2 13
theorem nmX2 : ∀ a, a < 13 → ∀ b, b < 13 → a ≠ b → (TX2 a).2.1 ≠ (TX2 b).2.1 := by decide +kernel
theorem tyX2_ok : ∀ k, k < 13 → parseFieldDescriptor (TX2 k).2.2.1 = some (tyX2 k) := by decide +kernel
abbrev cX2_init : ByteArray := prog_4_method_1_code
def yX2_init : MethodName := ⟨RX2, "<init>", "(IIIII)V"⟩
abbrev cX2_say : ByteArray := prog_4_method_2_code
def yX2_say : MethodName := ⟨RX2, "say", "(III)V"⟩
abbrev cX2_copy : ByteArray := prog_4_method_3_code
def yX2_copy : MethodName := ⟨RX2, "copy", "()LToldHouse$Happening;"⟩
abbrev cX2_field : ByteArray := prog_4_method_4_code
def yX2_field : MethodName := ⟨RX2, "field", "(I)I"⟩
abbrev cX2_alter : ByteArray := prog_4_method_5_code
def yX2_alter : MethodName := ⟨RX2, "alter", "(II)V"⟩
abbrev cX2_isAsTold : ByteArray := prog_4_method_6_code
def yX2_isAsTold : MethodName := ⟨RX2, "isAsTold", "()Z"⟩
abbrev cX2_isAsItsKindAsks : ByteArray := prog_4_method_7_code
def yX2_isAsItsKindAsks : MethodName := ⟨RX2, "isAsItsKindAsks", "()Z"⟩
abbrev cX2_hasItsRef : ByteArray := prog_4_method_8_code
def yX2_hasItsRef : MethodName := ⟨RX2, "hasItsRef", "(LToldHouse$Row;)Z"⟩
abbrev cX2_inHundredths : ByteArray := prog_4_method_9_code
def yX2_inHundredths : MethodName := ⟨RX2, "inHundredths", "()I"⟩
abbrev cX2_isValid : ByteArray := prog_4_method_10_code
def yX2_isValid : MethodName := ⟨RX2, "isValid", "()Z"⟩
abbrev cX2_amountAsMended : ByteArray := prog_4_method_11_code
def yX2_amountAsMended : MethodName := ⟨RX2, "amountAsMended", "()I"⟩
abbrev cX2_keyAsMended : ByteArray := prog_4_method_12_code
def yX2_keyAsMended : MethodName := ⟨RX2, "keyAsMended", "()I"⟩
abbrev cX2_soAsMended : ByteArray := prog_4_method_13_code
def yX2_soAsMended : MethodName := ⟨RX2, "soAsMended", "()I"⟩
def RX3 : String := "ToldHouse$Judge"
def TX3 : u_T := fun k => match k with
  | 0 => ("ToldHouse$Judge", "days", "LToldHouse$Days;", true)
  | 1 => ("ToldHouse$Judge", "valid", "I", false)
  | 2 => ("ToldHouse$Judge", "made", "I", false)
  | 3 => ("ToldHouse$Judge", "ended", "I", false)
  | 4 => ("ToldHouse$Judge", "madeSo", "I", false)
  | 5 => ("ToldHouse$Judge", "endedSo", "I", false)
  | 6 => ("ToldHouse$Judge", "firstSo", "I", false)
  | 7 => ("ToldHouse$Judge", "lastSo", "I", false)
  | _ => ("ToldHouse$Judge", "sum", "J", false)
def tyX3 : Nat → FieldType := fun k => match k with
  | 0 => .object "ToldHouse$Days"
  | 1 => .int
  | 2 => .int
  | 3 => .int
  | 4 => .int
  | 5 => .int
  | 6 => .int
  | 7 => .int
  | _ => .long
abbrev wsX30 : List Cond := u_ws RX3 TX3 9
theorem nmX3 : ∀ a, a < 9 → ∀ b, b < 9 → a ≠ b → (TX3 a).2.1 ≠ (TX3 b).2.1 := by decide +kernel
theorem tyX3_ok : ∀ k, k < 9 → parseFieldDescriptor (TX3 k).2.2.1 = some (tyX3 k) := by decide +kernel
abbrev cX3_init : ByteArray := prog_5_method_1_code
def yX3_init : MethodName := ⟨RX3, "<init>", "()V"⟩
abbrev cX3_settle : ByteArray := prog_5_method_2_code
def yX3_settle : MethodName := ⟨RX3, "settle", "(LToldHouse$Row;I)V"⟩
abbrev cX3_markMeant : ByteArray := prog_5_method_3_code
def yX3_markMeant : MethodName := ⟨RX3, "markMeant", "(LToldHouse$Happening;LToldHouse$Happening;)V"⟩
abbrev cX3_verdict : ByteArray := prog_5_method_4_code
def yX3_verdict : MethodName := ⟨RX3, "verdict", "(LToldHouse$Row;I)I"⟩
abbrev cX3_tally : ByteArray := prog_5_method_5_code
def yX3_tally : MethodName := ⟨RX3, "tally", "(LToldHouse$Row;I)V"⟩
abbrev cX3_tallyKind : ByteArray := prog_5_method_6_code
def yX3_tallyKind : MethodName := ⟨RX3, "tallyKind", "(II)V"⟩
def RX4 : String := "ToldHouse$Leg"
def TX4 : u_T := fun k => match k with
  | 0 => ("ToldHouse$Leg", "stream", "I", true)
  | 1 => ("ToldHouse$Leg", "amount", "I", true)
  | _ => ("ToldHouse$Leg", "change", "LToldHouse$Happening;", false)
def tyX4 : Nat → FieldType := fun k => match k with
  | 0 => .int
  | 1 => .int
  | _ => .object "ToldHouse$Happening"
abbrev wsX40 : List Cond := u_ws RX4 TX4 3
theorem nmX4 : ∀ a, a < 3 → ∀ b, b < 3 → a ≠ b → (TX4 a).2.1 ≠ (TX4 b).2.1 := by decide +kernel
theorem tyX4_ok : ∀ k, k < 3 → parseFieldDescriptor (TX4 k).2.2.1 = some (tyX4 k) := by decide +kernel
abbrev cX4_init : ByteArray := prog_6_method_1_code
def yX4_init : MethodName := ⟨RX4, "<init>", "(II)V"⟩
def RX5 : String := "ToldHouse$Row"
def TX5 : u_T := fun k => match k with
  | 0 => ("ToldHouse$Row", "size", "I", false)
  | _ => ("ToldHouse$Row", "told", "[LToldHouse$Happening;", false)
def tyX5 : Nat → FieldType := fun k => match k with
  | 0 => .int
  | _ => .array (.object "ToldHouse$Happening")
abbrev wsX50 : List Cond := u_ws RX5 TX5 2
theorem nmX5 : ∀ a, a < 2 → ∀ b, b < 2 → a ≠ b → (TX5 a).2.1 ≠ (TX5 b).2.1 := by decide +kernel
theorem tyX5_ok : ∀ k, k < 2 → parseFieldDescriptor (TX5 k).2.2.1 = some (tyX5 k) := by decide +kernel
abbrev cX5_init : ByteArray := prog_7_method_1_code
def yX5_init : MethodName := ⟨RX5, "<init>", "()V"⟩
abbrev cX5_nth : ByteArray := prog_7_method_2_code
def yX5_nth : MethodName := ⟨RX5, "nth", "(I)LToldHouse$Happening;"⟩
abbrev cX5_add : ByteArray := prog_7_method_3_code
def yX5_add : MethodName := ⟨RX5, "add", "(LToldHouse$Happening;)V"⟩
abbrev cX5_dropLast : ByteArray := prog_7_method_4_code
def yX5_dropLast : MethodName := ⟨RX5, "dropLast", "()V"⟩
abbrev cX5_put : ByteArray := prog_7_method_5_code
def yX5_put : MethodName := ⟨RX5, "put", "(ILToldHouse$Happening;)V"⟩
abbrev cX5_become : ByteArray := prog_7_method_6_code
def yX5_become : MethodName := ⟨RX5, "become", "(LToldHouse$Row;)V"⟩
abbrev cX5_makeRoom : ByteArray := prog_7_method_7_code
def yX5_makeRoom : MethodName := ⟨RX5, "makeRoom", "()V"⟩
abbrev cX5_knownBy : ByteArray := prog_7_method_8_code
def yX5_knownBy : MethodName := ⟨RX5, "knownBy", "(I)I"⟩
abbrev cX5_amongFirst : ByteArray := prog_7_method_9_code
def yX5_amongFirst : MethodName := ⟨RX5, "amongFirst", "(I)I"⟩
def RX6 : String := "ToldHouse$Sender"
def TX6 : u_T := fun k => match k with
  | 0 => ("ToldHouse$Sender", "greatest", "I", false)
  | _ => ("ToldHouse$Sender", "counted", "I", false)
def tyX6 : Nat → FieldType := fun k => match k with
  | 0 => .int
  | _ => .int
abbrev wsX60 : List Cond := u_ws RX6 TX6 2
theorem nmX6 : ∀ a, a < 2 → ∀ b, b < 2 → a ≠ b → (TX6 a).2.1 ≠ (TX6 b).2.1 := by decide +kernel
theorem tyX6_ok : ∀ k, k < 2 → parseFieldDescriptor (TX6 k).2.2.1 = some (tyX6 k) := by decide +kernel
abbrev cX6_init : ByteArray := prog_8_method_1_code
def yX6_init : MethodName := ⟨RX6, "<init>", "()V"⟩
abbrev cX6_isOld : ByteArray := prog_8_method_2_code
def yX6_isOld : MethodName := ⟨RX6, "isOld", "(I)Z"⟩
abbrev cX6_hasCounted : ByteArray := prog_8_method_3_code
def yX6_hasCounted : MethodName := ⟨RX6, "hasCounted", "(I)Z"⟩
abbrev cX6_remember : ByteArray := prog_8_method_4_code
def yX6_remember : MethodName := ⟨RX6, "remember", "(I)V"⟩
def RX7 : String := "ToldHouse$View"
def TX7 : u_T := fun k => match k with
  | 0 => ("ToldHouse$View", "by", "I", true)
  | 1 => ("ToldHouse$View", "what", "I", true)
  | _ => ("ToldHouse$View", "hasRead", "I", false)
def tyX7 : Nat → FieldType := fun k => match k with
  | 0 => .int
  | 1 => .int
  | _ => .int
abbrev wsX70 : List Cond := u_ws RX7 TX7 3
theorem nmX7 : ∀ a, a < 3 → ∀ b, b < 3 → a ≠ b → (TX7 a).2.1 ≠ (TX7 b).2.1 := by decide +kernel
theorem tyX7_ok : ∀ k, k < 3 → parseFieldDescriptor (TX7 k).2.2.1 = some (tyX7 k) := by decide +kernel
abbrev cX7_init : ByteArray := prog_9_method_1_code
def yX7_init : MethodName := ⟨RX7, "<init>", "(II)V"⟩
abbrev cX7_rows : ByteArray := prog_9_method_2_code
def yX7_rows : MethodName := ⟨RX7, "rows", "()I"⟩
abbrev cX7_isOfRow : ByteArray := prog_9_method_3_code
def yX7_isOfRow : MethodName := ⟨RX7, "isOfRow", "(LToldHouse$Happening;I)Z"⟩
abbrev cX7_rowAsked : ByteArray := prog_9_method_4_code
def yX7_rowAsked : MethodName := ⟨RX7, "rowAsked", "(LToldHouse$Happening;)I"⟩
def RX8 : String := "ToldHouse"
def TX8 : u_T := fun k => match k with
  | 0 => ("ToldHouse", "all", "LToldHouse$Row;", true)
  | 1 => ("ToldHouse", "streams", "[LToldHouse$Row;", true)
  | 2 => ("ToldHouse", "trial", "LToldHouse$Row;", true)
  | 3 => ("ToldHouse", "judge", "LToldHouse$Judge;", true)
  | 4 => ("ToldHouse", "views", "[LToldHouse$View;", true)
  | 5 => ("ToldHouse", "doings", "[LToldHouse$Doing;", true)
  | 6 => ("ToldHouse", "senders", "[LToldHouse$Sender;", true)
  | 7 => ("ToldHouse", "today", "I", false)
  | 8 => ("ToldHouse", "viewCount", "I", false)
  | _ => ("ToldHouse", "doingCount", "I", false)
def tyX8 : Nat → FieldType := fun k => match k with
  | 0 => .object "ToldHouse$Row"
  | 1 => .array (.object "ToldHouse$Row")
  | 2 => .object "ToldHouse$Row"
  | 3 => .object "ToldHouse$Judge"
  | 4 => .array (.object "ToldHouse$View")
  | 5 => .array (.object "ToldHouse$Doing")
  | 6 => .array (.object "ToldHouse$Sender")
  | 7 => .int
  | 8 => .int
  | _ => .int
abbrev wsX80 : List Cond := u_ws RX8 TX8 10
theorem nmX8 : ∀ a, a < 10 → ∀ b, b < 10 → a ≠ b → (TX8 a).2.1 ≠ (TX8 b).2.1 := by decide +kernel
theorem tyX8_ok : ∀ k, k < 10 → parseFieldDescriptor (TX8 k).2.2.1 = some (tyX8 k) := by decide +kernel
abbrev cX8_init : ByteArray := prog_1_method_1_code
def yX8_init : MethodName := ⟨RX8, "<init>", "()V"⟩
abbrev cX8_day : ByteArray := prog_1_method_2_code
def yX8_day : MethodName := ⟨RX8, "day", "(I)Z"⟩
abbrev cX8_tell : ByteArray := prog_1_method_3_code
def yX8_tell : MethodName := ⟨RX8, "tell", "(IIIIIII)I"⟩
abbrev cX8_mend : ByteArray := prog_1_method_4_code
def yX8_mend : MethodName := ⟨RX8, "mend", "(IIIIIII)I"⟩
abbrev cX8_take : ByteArray := prog_1_method_5_code
def yX8_take : MethodName := ⟨RX8, "take", "(III)I"⟩
abbrev cX8_happening : ByteArray := prog_1_method_6_code
def yX8_happening : MethodName := ⟨RX8, "happening", "(II)I"⟩
abbrev cX8_number : ByteArray := prog_1_method_7_code
def yX8_number : MethodName := ⟨RX8, "number", "(II)I"⟩
abbrev cX8_count : ByteArray := prog_1_method_8_code
def yX8_count : MethodName := ⟨RX8, "count", "(I)I"⟩
abbrev cX8_seen : ByteArray := prog_1_method_9_code
def yX8_seen : MethodName := ⟨RX8, "seen", "(I)I"⟩
abbrev cX8_sum : ByteArray := prog_1_method_10_code
def yX8_sum : MethodName := ⟨RX8, "sum", "(IIII)J"⟩
abbrev cX8_state : ByteArray := prog_1_method_11_code
def yX8_state : MethodName := ⟨RX8, "state", "(III)I"⟩
abbrev cX8_view : ByteArray := prog_1_method_12_code
def yX8_view : MethodName := ⟨RX8, "view", "(II)I"⟩
abbrev cX8_read : ByteArray := prog_1_method_13_code
def yX8_read : MethodName := ⟨RX8, "read", "(II)I"⟩
abbrev cX8_up : ByteArray := prog_1_method_14_code
def yX8_up : MethodName := ⟨RX8, "up", "(II)I"⟩
abbrev cX8_at : ByteArray := prog_1_method_15_code
def yX8_at : MethodName := ⟨RX8, "at", "(II)J"⟩
abbrev cX8_lead : ByteArray := prog_1_method_16_code
def yX8_lead : MethodName := ⟨RX8, "lead", "(III)I"⟩
abbrev cX8_doing : ByteArray := prog_1_method_17_code
def yX8_doing : MethodName := ⟨RX8, "doing", "()I"⟩
abbrev cX8_leg : ByteArray := prog_1_method_18_code
def yX8_leg : MethodName := ⟨RX8, "leg", "(III)I"⟩
abbrev cX8_go : ByteArray := prog_1_method_19_code
def yX8_go : MethodName := ⟨RX8, "go", "(I)Z"⟩
abbrev cX8_step : ByteArray := prog_1_method_20_code
def yX8_step : MethodName := ⟨RX8, "step", "(I)I"⟩
abbrev cX8_ends : ByteArray := prog_1_method_21_code
def yX8_ends : MethodName := ⟨RX8, "ends", "(II)I"⟩
abbrev cX8_in : ByteArray := prog_1_method_22_code
def yX8_in : MethodName := ⟨RX8, "in", "(IIIIII)I"⟩
abbrev cX8_latest : ByteArray := prog_1_method_23_code
def yX8_latest : MethodName := ⟨RX8, "latest", "(I)I"⟩
abbrev cX8_check : ByteArray := prog_1_method_24_code
def yX8_check : MethodName := ⟨RX8, "check", "(III)I"⟩
abbrev cX8_isWithin : ByteArray := prog_1_method_25_code
def yX8_isWithin : MethodName := ⟨RX8, "isWithin", "(III)Z"⟩
abbrev cX8_isDay : ByteArray := prog_1_method_26_code
def yX8_isDay : MethodName := ⟨RX8, "isDay", "(I)Z"⟩
abbrev cX8_areDays : ByteArray := prog_1_method_27_code
def yX8_areDays : MethodName := ⟨RX8, "areDays", "(II)Z"⟩
abbrev cX8_isAmount : ByteArray := prog_1_method_28_code
def yX8_isAmount : MethodName := ⟨RX8, "isAmount", "(I)Z"⟩
abbrev cX8_stateBy : ByteArray := prog_1_method_29_code
def yX8_stateBy : MethodName := ⟨RX8, "stateBy", "(I)I"⟩
abbrev cX8_rowOf : ByteArray := prog_1_method_30_code
def yX8_rowOf : MethodName := ⟨RX8, "rowOf", "(I)LToldHouse$Row;"⟩
abbrev cX8_viewAt : ByteArray := prog_1_method_31_code
def yX8_viewAt : MethodName := ⟨RX8, "viewAt", "(I)LToldHouse$View;"⟩
abbrev cX8_doingAt : ByteArray := prog_1_method_32_code
def yX8_doingAt : MethodName := ⟨RX8, "doingAt", "(I)LToldHouse$Doing;"⟩
abbrev cX8_senderAt : ByteArray := prog_1_method_33_code
def yX8_senderAt : MethodName := ⟨RX8, "senderAt", "(I)LToldHouse$Sender;"⟩
abbrev cX8_changeOf : ByteArray := prog_1_method_34_code
def yX8_changeOf : MethodName := ⟨RX8, "changeOf", "(LToldHouse$Leg;)I"⟩
abbrev cX8_isVoidByAll : ByteArray := prog_1_method_35_code
def yX8_isVoidByAll : MethodName := ⟨RX8, "isVoidByAll", "(LToldHouse$Happening;)Z"⟩
abbrev cX8_settleFirst : ByteArray := prog_1_method_36_code
def yX8_settleFirst : MethodName := ⟨RX8, "settleFirst", "(I)V"⟩
abbrev cX8_taking : ByteArray := prog_1_method_37_code
def yX8_taking : MethodName := ⟨RX8, "taking", "(III)LToldHouse$Happening;"⟩
abbrev cX8_bring : ByteArray := prog_1_method_38_code
def yX8_bring : MethodName := ⟨RX8, "bring", "(LToldHouse$Happening;I)I"⟩
abbrev cX8_doNextLeg : ByteArray := prog_1_method_39_code
def yX8_doNextLeg : MethodName := ⟨RX8, "doNextLeg", "(LToldHouse$Doing;)I"⟩
abbrev cX8_undoLastLeg : ByteArray := prog_1_method_40_code
def yX8_undoLastLeg : MethodName := ⟨RX8, "undoLastLeg", "(LToldHouse$Doing;)I"⟩
abbrev cX8_firstThatCouldNotCome : ByteArray := prog_1_method_41_code
def yX8_firstThatCouldNotCome : MethodName := ⟨RX8, "firstThatCouldNotCome", "(LToldHouse$Happening;)I"⟩
abbrev cX8_couldComeInTrial : ByteArray := prog_1_method_42_code
def yX8_couldComeInTrial : MethodName := ⟨RX8, "couldComeInTrial", "(LToldHouse$Happening;)Z"⟩
def RX9 : String := "ToldHouseModel"
def TX9 : u_T := fun k => match k with
  | 0 => ("ToldHouseModel", "row", "[I", true)
  | 1 => ("ToldHouseModel", "many", "I", false)
  | 2 => ("ToldHouseModel", "today", "I", false)
  | 3 => ("ToldHouseModel", "inStream", "[I", true)
  | 4 => ("ToldHouseModel", "alteredAt", "I", false)
  | 5 => ("ToldHouseModel", "alteredWhat", "I", false)
  | 6 => ("ToldHouseModel", "alteredBy", "I", false)
  | 7 => ("ToldHouseModel", "list", "[I", true)
  | 8 => ("ToldHouseModel", "so", "[I", true)
  | 9 => ("ToldHouseModel", "key", "[I", true)
  | 10 => ("ToldHouseModel", "amount", "[J", true)
  | 11 => ("ToldHouseModel", "isVoid", "[Z", true)
  | 12 => ("ToldHouseModel", "isValid", "[Z", true)
  | 13 => ("ToldHouseModel", "listed", "I", false)
  | 14 => ("ToldHouseModel", "found", "I", false)
  | 15 => ("ToldHouseModel", "views", "I", false)
  | 16 => ("ToldHouseModel", "by", "[I", true)
  | 17 => ("ToldHouseModel", "what", "[I", true)
  | 18 => ("ToldHouseModel", "hasRead", "[I", true)
  | 19 => ("ToldHouseModel", "leads", "[Z", true)
  | 20 => ("ToldHouseModel", "doings", "I", false)
  | 21 => ("ToldHouseModel", "how", "[I", true)
  | 22 => ("ToldHouseModel", "legs", "[I", true)
  | 23 => ("ToldHouseModel", "did", "[I", true)
  | 24 => ("ToldHouseModel", "undid", "[I", true)
  | 25 => ("ToldHouseModel", "legStream", "[I", true)
  | 26 => ("ToldHouseModel", "legAmount", "[I", true)
  | 27 => ("ToldHouseModel", "legHappening", "[I", true)
  | 28 => ("ToldHouseModel", "greatest", "[J", true)
  | _ => ("ToldHouseModel", "counted", "[J", true)
def tyX9 : Nat → FieldType := fun k => match k with
  | 0 => .array .int
  | 1 => .int
  | 2 => .int
  | 3 => .array .int
  | 4 => .int
  | 5 => .int
  | 6 => .int
  | 7 => .array .int
  | 8 => .array .int
  | 9 => .array .int
  | 10 => .array .long
  | 11 => .array .boolean
  | 12 => .array .boolean
  | 13 => .int
  | 14 => .int
  | 15 => .int
  | 16 => .array .int
  | 17 => .array .int
  | 18 => .array .int
  | 19 => .array .boolean
  | 20 => .int
  | 21 => .array .int
  | 22 => .array .int
  | 23 => .array .int
  | 24 => .array .int
  | 25 => .array .int
  | 26 => .array .int
  | 27 => .array .int
  | 28 => .array .long
  | _ => .array .long
abbrev wsX90 : List Cond := u_ws RX9 TX9 30
theorem nmX9 : ∀ a, a < 30 → ∀ b, b < 30 → a ≠ b → (TX9 a).2.1 ≠ (TX9 b).2.1 := by decide +kernel
theorem tyX9_ok : ∀ k, k < 30 → parseFieldDescriptor (TX9 k).2.2.1 = some (tyX9 k) := by decide +kernel
abbrev cX9_init : ByteArray := prog_11_method_1_code
def yX9_init : MethodName := ⟨RX9, "<init>", "()V"⟩
abbrev cX9_in : ByteArray := prog_11_method_2_code
def yX9_in : MethodName := ⟨RX9, "in", "(III)Z"⟩
abbrev cX9_day : ByteArray := prog_11_method_3_code
def yX9_day : MethodName := ⟨RX9, "day", "(I)Z"⟩
abbrev cX9_of : ByteArray := prog_11_method_4_code
def yX9_of : MethodName := ⟨RX9, "of", "(II)I"⟩
abbrev cX9_read : ByteArray := prog_11_method_5_code
def yX9_read : MethodName := ⟨RX9, "read", "(I)J"⟩
abbrev cX9_gather : ByteArray := prog_11_method_6_code
def yX9_gather : MethodName := ⟨RX9, "gather", "(III)V"⟩
abbrev cX9_manyOf : ByteArray := prog_11_method_7_code
def yX9_manyOf : MethodName := ⟨RX9, "manyOf", "(I)I"⟩
abbrev cX9_sumTo : ByteArray := prog_11_method_8_code
def yX9_sumTo : MethodName := ⟨RX9, "sumTo", "(II)J"⟩
abbrev cX9_wrong : ByteArray := prog_11_method_9_code
def yX9_wrong : MethodName := ⟨RX9, "wrong", "()I"⟩
abbrev cX9_comes : ByteArray := prog_11_method_10_code
def yX9_comes : MethodName := ⟨RX9, "comes", "(IIIIIIIII)I"⟩
abbrev cX9_isTold : ByteArray := prog_11_method_11_code
def yX9_isTold : MethodName := ⟨RX9, "isTold", "(IIIII)Z"⟩
abbrev cX9_tell : ByteArray := prog_11_method_12_code
def yX9_tell : MethodName := ⟨RX9, "tell", "(IIIIIII)I"⟩
abbrev cX9_mend : ByteArray := prog_11_method_13_code
def yX9_mend : MethodName := ⟨RX9, "mend", "(IIIIIII)I"⟩
abbrev cX9_take : ByteArray := prog_11_method_14_code
def yX9_take : MethodName := ⟨RX9, "take", "(III)I"⟩
abbrev cX9_isHappening : ByteArray := prog_11_method_15_code
def yX9_isHappening : MethodName := ⟨RX9, "isHappening", "(I)Z"⟩
abbrev cX9_happening : ByteArray := prog_11_method_16_code
def yX9_happening : MethodName := ⟨RX9, "happening", "(II)I"⟩
abbrev cX9_number : ByteArray := prog_11_method_17_code
def yX9_number : MethodName := ⟨RX9, "number", "(II)I"⟩
abbrev cX9_count : ByteArray := prog_11_method_18_code
def yX9_count : MethodName := ⟨RX9, "count", "(I)I"⟩
abbrev cX9_seen : ByteArray := prog_11_method_19_code
def yX9_seen : MethodName := ⟨RX9, "seen", "(I)I"⟩
abbrev cX9_isAsked : ByteArray := prog_11_method_20_code
def yX9_isAsked : MethodName := ⟨RX9, "isAsked", "(III)Z"⟩
abbrev cX9_sum : ByteArray := prog_11_method_21_code
def yX9_sum : MethodName := ⟨RX9, "sum", "(IIII)J"⟩
abbrev cX9_state : ByteArray := prog_11_method_22_code
def yX9_state : MethodName := ⟨RX9, "state", "(III)I"⟩
abbrev cX9_rowsOf : ByteArray := prog_11_method_23_code
def yX9_rowsOf : MethodName := ⟨RX9, "rowsOf", "(I)I"⟩
abbrev cX9_view : ByteArray := prog_11_method_24_code
def yX9_view : MethodName := ⟨RX9, "view", "(II)I"⟩
abbrev cX9_isView : ByteArray := prog_11_method_25_code
def yX9_isView : MethodName := ⟨RX9, "isView", "(I)Z"⟩
abbrev cX9_read_ : ByteArray := prog_11_method_26_code
def yX9_read_ : MethodName := ⟨RX9, "read", "(II)I"⟩
abbrev cX9_up : ByteArray := prog_11_method_27_code
def yX9_up : MethodName := ⟨RX9, "up", "(II)I"⟩
abbrev cX9_isRow : ByteArray := prog_11_method_28_code
def yX9_isRow : MethodName := ⟨RX9, "isRow", "(II)Z"⟩
abbrev cX9_makes : ByteArray := prog_11_method_29_code
def yX9_makes : MethodName := ⟨RX9, "makes", "(IIII)Z"⟩
abbrev cX9_at : ByteArray := prog_11_method_30_code
def yX9_at : MethodName := ⟨RX9, "at", "(II)J"⟩
abbrev cX9_lead : ByteArray := prog_11_method_31_code
def yX9_lead : MethodName := ⟨RX9, "lead", "(III)I"⟩
abbrev cX9_doing : ByteArray := prog_11_method_32_code
def yX9_doing : MethodName := ⟨RX9, "doing", "()I"⟩
abbrev cX9_isDoing : ByteArray := prog_11_method_33_code
def yX9_isDoing : MethodName := ⟨RX9, "isDoing", "(I)Z"⟩
abbrev cX9_leg : ByteArray := prog_11_method_34_code
def yX9_leg : MethodName := ⟨RX9, "leg", "(III)I"⟩
abbrev cX9_go : ByteArray := prog_11_method_35_code
def yX9_go : MethodName := ⟨RX9, "go", "(I)Z"⟩
abbrev cX9_step : ByteArray := prog_11_method_36_code
def yX9_step : MethodName := ⟨RX9, "step", "(I)I"⟩
abbrev cX9_forward : ByteArray := prog_11_method_37_code
def yX9_forward : MethodName := ⟨RX9, "forward", "(I)I"⟩
abbrev cX9_backward : ByteArray := prog_11_method_38_code
def yX9_backward : MethodName := ⟨RX9, "backward", "(I)I"⟩
abbrev cX9_ends : ByteArray := prog_11_method_39_code
def yX9_ends : MethodName := ⟨RX9, "ends", "(II)I"⟩
abbrev cX9_in_ : ByteArray := prog_11_method_40_code
def yX9_in_ : MethodName := ⟨RX9, "in", "(IIIIII)I"⟩
abbrev cX9_latest : ByteArray := prog_11_method_41_code
def yX9_latest : MethodName := ⟨RX9, "latest", "(I)I"⟩
abbrev cX9_couldCome : ByteArray := prog_11_method_42_code
def yX9_couldCome : MethodName := ⟨RX9, "couldCome", "(I)Z"⟩
abbrev cX9_isRightTo : ByteArray := prog_11_method_43_code
def yX9_isRightTo : MethodName := ⟨RX9, "isRightTo", "(I)Z"⟩
abbrev cX9_check : ByteArray := prog_11_method_44_code
def yX9_check : MethodName := ⟨RX9, "check", "(III)I"⟩
def RJ13 : String := "java/lang/Long"
def TJ13 : u_T := fun k => match k with
  | _ => ("", "", "", false)
def tyJ13 : Nat → FieldType := fun k => match k with
  | _ => .int
abbrev wsJ130 : List Cond := u_ws RJ13 TJ13 0
theorem nmJ13 : ∀ a, a < 0 → ∀ b, b < 0 → a ≠ b → (TJ13 a).2.1 ≠ (TJ13 b).2.1 := by decide +kernel
theorem tyJ13_ok : ∀ k, k < 0 → parseFieldDescriptor (TJ13 k).2.2.1 = some (tyJ13 k) := by decide +kernel
abbrev cJ13_bitCount_95d88 : ByteArray := prog_12_method_50_code
def yJ13_bitCount_95d88 : MethodName := ⟨RJ13, "bitCount", "(J)I"⟩
def RJ9 : String := "java/lang/Math"
def TJ9 : u_T := fun k => match k with
  | _ => ("", "", "", false)
def tyJ9 : Nat → FieldType := fun k => match k with
  | _ => .int
abbrev wsJ90 : List Cond := u_ws RJ9 TJ9 0
theorem nmJ9 : ∀ a, a < 0 → ∀ b, b < 0 → a ≠ b → (TJ9 a).2.1 ≠ (TJ9 b).2.1 := by decide +kernel
theorem tyJ9_ok : ∀ k, k < 0 → parseFieldDescriptor (TJ9 k).2.2.1 = some (tyJ9 k) := by decide +kernel
abbrev cJ9_max_7cf53 : ByteArray := prog_13_method_65_code
def yJ9_max_7cf53 : MethodName := ⟨RJ9, "max", "(II)I"⟩
abbrev cJ9_min_7cf53 : ByteArray := prog_13_method_69_code
def yJ9_min_7cf53 : MethodName := ⟨RJ9, "min", "(II)I"⟩
def RL : String := "ToldHouseLaw"
abbrev cL_law : ByteArray := code
def yL_law : MethodName := ⟨RL, "law", "([I)Z"⟩
