-- ===== PART A: goes FIRST, ahead of the names: the tables' words, and 'selects' of the private methods out of them =====
/-- a private method of a class that the tables say can be made, by its rows of tables_1 -/
def lw_okq (q : MethodName × Nat) : Prop := (q.1.cls ≠ "java/lang/invoke/MethodHandle" ∧ q.1.cls ≠ "java/lang/invoke/VarHandle") ∧ Cond.instantiable q.1.cls q.2 ∈ tables_1 ∧ Cond.privateMethod q.1 ∈ tables_1 ∧ Cond.instanceMethod q.1 ∈ tables_1
theorem lw_p0 : lw_okq (⟨"EdgeJoin$Rectangle", "empty", "()V"⟩, 3) := ⟨⟨by decide +kernel, by decide +kernel⟩, List.mem_of_getElem? (i := 26) (by decide +kernel), List.mem_of_getElem? (i := 32) (by decide +kernel), List.mem_of_getElem? (i := 33) (by decide +kernel)⟩
theorem lw_p1 : lw_okq (⟨"EdgeJoin", "endChange", "(I)I"⟩, 10) := ⟨⟨by decide +kernel, by decide +kernel⟩, List.mem_of_getElem? (i := 12) (by decide +kernel), List.mem_of_getElem? (i := 243) (by decide +kernel), List.mem_of_getElem? (i := 244) (by decide +kernel)⟩
theorem lw_p2 : lw_okq (⟨"EdgeJoin", "fail", "(I)I"⟩, 10) := ⟨⟨by decide +kernel, by decide +kernel⟩, List.mem_of_getElem? (i := 12) (by decide +kernel), List.mem_of_getElem? (i := 247) (by decide +kernel), List.mem_of_getElem? (i := 248) (by decide +kernel)⟩
theorem lw_p3 : lw_okq (⟨"EdgeJoin$Maker", "paintPoints", "(II)V"⟩, 2) := ⟨⟨by decide +kernel, by decide +kernel⟩, List.mem_of_getElem? (i := 151) (by decide +kernel), List.mem_of_getElem? (i := 294) (by decide +kernel), List.mem_of_getElem? (i := 295) (by decide +kernel)⟩
theorem lw_p4 : lw_okq (⟨"EdgeJoin$Maker", "drawNumber", "()I"⟩, 2) := ⟨⟨by decide +kernel, by decide +kernel⟩, List.mem_of_getElem? (i := 151) (by decide +kernel), List.mem_of_getElem? (i := 298) (by decide +kernel), List.mem_of_getElem? (i := 299) (by decide +kernel)⟩
theorem lw_p5 : lw_okq (⟨"EdgeJoin$Maker", "cutPiece", "(III)I"⟩, 2) := ⟨⟨by decide +kernel, by decide +kernel⟩, List.mem_of_getElem? (i := 151) (by decide +kernel), List.mem_of_getElem? (i := 306) (by decide +kernel), List.mem_of_getElem? (i := 307) (by decide +kernel)⟩
theorem lw_p6 : lw_okq (⟨"EdgeJoin$Maker", "mixPieces", "(LEdgeJoin$State;)V"⟩, 2) := ⟨⟨by decide +kernel, by decide +kernel⟩, List.mem_of_getElem? (i := 151) (by decide +kernel), List.mem_of_getElem? (i := 310) (by decide +kernel), List.mem_of_getElem? (i := 311) (by decide +kernel)⟩
theorem lw_p7 : lw_okq (⟨"EdgeJoin$Maker", "turnPieces", "(LEdgeJoin$State;)V"⟩, 2) := ⟨⟨by decide +kernel, by decide +kernel⟩, List.mem_of_getElem? (i := 151) (by decide +kernel), List.mem_of_getElem? (i := 314) (by decide +kernel), List.mem_of_getElem? (i := 315) (by decide +kernel)⟩
theorem lw_p8 : lw_okq (⟨"EdgeJoin", "freshSides", "()LEdgeJoin$Sides;"⟩, 10) := ⟨⟨by decide +kernel, by decide +kernel⟩, List.mem_of_getElem? (i := 12) (by decide +kernel), List.mem_of_getElem? (i := 339) (by decide +kernel), List.mem_of_getElem? (i := 340) (by decide +kernel)⟩
theorem lw_p9 : lw_okq (⟨"EdgeJoin$Sides", "isUpToDate", "(LEdgeJoin$State;)Z"⟩, 6) := ⟨⟨by decide +kernel, by decide +kernel⟩, List.mem_of_getElem? (i := 91) (by decide +kernel), List.mem_of_getElem? (i := 347) (by decide +kernel), List.mem_of_getElem? (i := 348) (by decide +kernel)⟩
theorem lw_p10 : lw_okq (⟨"EdgeJoin$Sides", "readColors", "()V"⟩, 6) := ⟨⟨by decide +kernel, by decide +kernel⟩, List.mem_of_getElem? (i := 91) (by decide +kernel), List.mem_of_getElem? (i := 352) (by decide +kernel), List.mem_of_getElem? (i := 353) (by decide +kernel)⟩
theorem lw_p11 : lw_okq (⟨"EdgeJoin$Sides", "compareSides", "()V"⟩, 6) := ⟨⟨by decide +kernel, by decide +kernel⟩, List.mem_of_getElem? (i := 91) (by decide +kernel), List.mem_of_getElem? (i := 359) (by decide +kernel), List.mem_of_getElem? (i := 360) (by decide +kernel)⟩
theorem lw_p12 : lw_okq (⟨"EdgeJoin$Sides", "findMate", "(I)I"⟩, 6) := ⟨⟨by decide +kernel, by decide +kernel⟩, List.mem_of_getElem? (i := 91) (by decide +kernel), List.mem_of_getElem? (i := 369) (by decide +kernel), List.mem_of_getElem? (i := 370) (by decide +kernel)⟩
theorem lw_p13 : lw_okq (⟨"EdgeJoin$Sides", "joinGroups", "()V"⟩, 6) := ⟨⟨by decide +kernel, by decide +kernel⟩, List.mem_of_getElem? (i := 91) (by decide +kernel), List.mem_of_getElem? (i := 377) (by decide +kernel), List.mem_of_getElem? (i := 378) (by decide +kernel)⟩
theorem lw_p14 : lw_okq (⟨"EdgeJoin$Sides", "isLowerOfPair", "(I)Z"⟩, 6) := ⟨⟨by decide +kernel, by decide +kernel⟩, List.mem_of_getElem? (i := 91) (by decide +kernel), List.mem_of_getElem? (i := 381) (by decide +kernel), List.mem_of_getElem? (i := 382) (by decide +kernel)⟩
theorem lw_p15 : lw_okq (⟨"EdgeJoin$Sides", "mergeGroups", "(II)V"⟩, 6) := ⟨⟨by decide +kernel, by decide +kernel⟩, List.mem_of_getElem? (i := 91) (by decide +kernel), List.mem_of_getElem? (i := 385) (by decide +kernel), List.mem_of_getElem? (i := 386) (by decide +kernel)⟩
def lw_privs_1 : List (MethodName × Nat) := [(⟨"EdgeJoin$Rectangle", "empty", "()V"⟩, 3), (⟨"EdgeJoin", "endChange", "(I)I"⟩, 10), (⟨"EdgeJoin", "fail", "(I)I"⟩, 10), (⟨"EdgeJoin$Maker", "paintPoints", "(II)V"⟩, 2), (⟨"EdgeJoin$Maker", "drawNumber", "()I"⟩, 2), (⟨"EdgeJoin$Maker", "cutPiece", "(III)I"⟩, 2), (⟨"EdgeJoin$Maker", "mixPieces", "(LEdgeJoin$State;)V"⟩, 2), (⟨"EdgeJoin$Maker", "turnPieces", "(LEdgeJoin$State;)V"⟩, 2), (⟨"EdgeJoin", "freshSides", "()LEdgeJoin$Sides;"⟩, 10), (⟨"EdgeJoin$Sides", "isUpToDate", "(LEdgeJoin$State;)Z"⟩, 6), (⟨"EdgeJoin$Sides", "readColors", "()V"⟩, 6), (⟨"EdgeJoin$Sides", "compareSides", "()V"⟩, 6), (⟨"EdgeJoin$Sides", "findMate", "(I)I"⟩, 6), (⟨"EdgeJoin$Sides", "joinGroups", "()V"⟩, 6), (⟨"EdgeJoin$Sides", "isLowerOfPair", "(I)Z"⟩, 6), (⟨"EdgeJoin$Sides", "mergeGroups", "(II)V"⟩, 6)]
theorem lw_r1 : ∀ q ∈ lw_privs_1, lw_okq q := List.forall_mem_cons.mpr ⟨lw_p0, List.forall_mem_cons.mpr ⟨lw_p1, List.forall_mem_cons.mpr ⟨lw_p2, List.forall_mem_cons.mpr ⟨lw_p3, List.forall_mem_cons.mpr ⟨lw_p4, List.forall_mem_cons.mpr ⟨lw_p5, List.forall_mem_cons.mpr ⟨lw_p6, List.forall_mem_cons.mpr ⟨lw_p7, List.forall_mem_cons.mpr ⟨lw_p8, List.forall_mem_cons.mpr ⟨lw_p9, List.forall_mem_cons.mpr ⟨lw_p10, List.forall_mem_cons.mpr ⟨lw_p11, List.forall_mem_cons.mpr ⟨lw_p12, List.forall_mem_cons.mpr ⟨lw_p13, List.forall_mem_cons.mpr ⟨lw_p14, List.forall_mem_cons.mpr ⟨lw_p15, fun _ h => absurd h List.not_mem_nil⟩⟩⟩⟩⟩⟩⟩⟩⟩⟩⟩⟩⟩⟩⟩⟩
theorem lw_p16 : lw_okq (⟨"EdgeJoin$Sides", "standsBefore", "(IZ)Z"⟩, 6) := ⟨⟨by decide +kernel, by decide +kernel⟩, List.mem_of_getElem? (i := 91) (by decide +kernel), List.mem_of_getElem? (i := 439) (by decide +kernel), List.mem_of_getElem? (i := 440) (by decide +kernel)⟩
theorem lw_p17 : lw_okq (⟨"EdgeJoin$Sides", "touchingDifference", "(III)I"⟩, 6) := ⟨⟨by decide +kernel, by decide +kernel⟩, List.mem_of_getElem? (i := 91) (by decide +kernel), List.mem_of_getElem? (i := 468) (by decide +kernel), List.mem_of_getElem? (i := 469) (by decide +kernel)⟩
theorem lw_p18 : lw_okq (⟨"EdgeJoin$Arranger", "fitsFrame", "(LEdgeJoin$Sides;II)Z"⟩, 6) := ⟨⟨by decide +kernel, by decide +kernel⟩, List.mem_of_getElem? (i := 121) (by decide +kernel), List.mem_of_getElem? (i := 475) (by decide +kernel), List.mem_of_getElem? (i := 476) (by decide +kernel)⟩
theorem lw_p19 : lw_okq (⟨"EdgeJoin", "putOnTable", "(III)I"⟩, 10) := ⟨⟨by decide +kernel, by decide +kernel⟩, List.mem_of_getElem? (i := 12) (by decide +kernel), List.mem_of_getElem? (i := 500) (by decide +kernel), List.mem_of_getElem? (i := 501) (by decide +kernel)⟩
theorem lw_p20 : lw_okq (⟨"EdgeJoin", "findContentFor", "(IZ)I"⟩, 10) := ⟨⟨by decide +kernel, by decide +kernel⟩, List.mem_of_getElem? (i := 12) (by decide +kernel), List.mem_of_getElem? (i := 534) (by decide +kernel), List.mem_of_getElem? (i := 535) (by decide +kernel)⟩
def lw_privs_2 : List (MethodName × Nat) := [(⟨"EdgeJoin$Sides", "standsBefore", "(IZ)Z"⟩, 6), (⟨"EdgeJoin$Sides", "touchingDifference", "(III)I"⟩, 6), (⟨"EdgeJoin$Arranger", "fitsFrame", "(LEdgeJoin$Sides;II)Z"⟩, 6), (⟨"EdgeJoin", "putOnTable", "(III)I"⟩, 10), (⟨"EdgeJoin", "findContentFor", "(IZ)I"⟩, 10)]
theorem lw_r2 : ∀ q ∈ lw_privs_2, lw_okq q := List.forall_mem_cons.mpr ⟨lw_p16, List.forall_mem_cons.mpr ⟨lw_p17, List.forall_mem_cons.mpr ⟨lw_p18, List.forall_mem_cons.mpr ⟨lw_p19, List.forall_mem_cons.mpr ⟨lw_p20, fun _ h => absurd h List.not_mem_nil⟩⟩⟩⟩⟩
def lw_privs : List (MethodName × Nat) := lw_privs_1 ++ (lw_privs_2)
def lw_tbl : List Cond := k2_sels lw_privs ++ tables_1
theorem lw_privs_ok : ∀ q ∈ lw_privs, lw_okq q := by
  show ∀ q ∈ lw_privs_1 ++ (lw_privs_2), lw_okq q
  exact List.forall_mem_append.mpr ⟨lw_r1, lw_r2⟩
-- ===== end of PART A =====
def RX0 : String := "EdgeJoin$Arranger"
def TX0 : u_T := fun k => match k with
  | 0 => ("EdgeJoin$Arranger", "turnCount", "I", false)
  | 1 => ("EdgeJoin$Arranger", "framed", "Z", false)
  | 2 => ("EdgeJoin$Arranger", "used", "[Z", true)
  | 3 => ("EdgeJoin$Arranger", "trial", "LEdgeJoin$Rectangle;", true)
  | 4 => ("EdgeJoin$Arranger", "best", "LEdgeJoin$Rectangle;", true)
  | _ => ("EdgeJoin$Arranger", "bestCost", "I", false)
def tyX0 : Nat → FieldType := fun k => match k with
  | 0 => .int
  | 1 => .boolean
  | 2 => .array .boolean
  | 3 => .object "EdgeJoin$Rectangle"
  | 4 => .object "EdgeJoin$Rectangle"
  | _ => .int
abbrev wsX00 : List Cond := u_ws RX0 TX0 6
theorem nmX0 : ∀ a, a < 6 → ∀ b, b < 6 → a ≠ b → (TX0 a).2.1 ≠ (TX0 b).2.1 := by decide +kernel
theorem tyX0_ok : ∀ k, k < 6 → parseFieldDescriptor (TX0 k).2.2.1 = some (tyX0 k) := by decide +kernel
def RX1 : String := "EdgeJoin$History"
def TX1 : u_T := fun k => match k with
  | 0 => ("EdgeJoin$History", "kept", "[LEdgeJoin$State;", true)
  | 1 => ("EdgeJoin$History", "oldest", "I", false)
  | _ => ("EdgeJoin$History", "size", "I", false)
def tyX1 : Nat → FieldType := fun k => match k with
  | 0 => .array (.object "EdgeJoin$State")
  | 1 => .int
  | _ => .int
abbrev wsX10 : List Cond := u_ws RX1 TX1 3
theorem nmX1 : ∀ a, a < 3 → ∀ b, b < 3 → a ≠ b → (TX1 a).2.1 ≠ (TX1 b).2.1 := by decide +kernel
theorem tyX1_ok : ∀ k, k < 3 → parseFieldDescriptor (TX1 k).2.2.1 = some (tyX1 k) := by decide +kernel
def RX2 : String := "EdgeJoin$Maker"
def TX2 : u_T := fun k => match k with
  | 0 => ("EdgeJoin$Maker", "number", "J", false)
  | _ => ("EdgeJoin$Maker", "points", "[I", true)
def tyX2 : Nat → FieldType := fun k => match k with
  | 0 => .long
  | _ => .array .int
abbrev wsX20 : List Cond := u_ws RX2 TX2 2
theorem nmX2 : ∀ a, a < 2 → ∀ b, b < 2 → a ≠ b → (TX2 a).2.1 ≠ (TX2 b).2.1 := by decide +kernel
theorem tyX2_ok : ∀ k, k < 2 → parseFieldDescriptor (TX2 k).2.2.1 = some (tyX2 k) := by decide +kernel
def RX3 : String := "EdgeJoin$Rectangle"
def TX3 : u_T := fun k => match k with
  | 0 => ("EdgeJoin$Rectangle", "w", "I", false)
  | 1 => ("EdgeJoin$Rectangle", "h", "I", false)
  | _ => ("EdgeJoin$Rectangle", "contents", "[I", true)
def tyX3 : Nat → FieldType := fun k => match k with
  | 0 => .int
  | 1 => .int
  | _ => .array .int
abbrev wsX30 : List Cond := u_ws RX3 TX3 3
theorem nmX3 : ∀ a, a < 3 → ∀ b, b < 3 → a ≠ b → (TX3 a).2.1 ≠ (TX3 b).2.1 := by decide +kernel
theorem tyX3_ok : ∀ k, k < 3 → parseFieldDescriptor (TX3 k).2.2.1 = some (tyX3 k) := by decide +kernel
def RX4 : String := "EdgeJoin$Sides"
def TX4 : u_T := fun k => match k with
  | 0 => ("EdgeJoin$Sides", "count", "I", false)
  | 1 => ("EdgeJoin$Sides", "cells", "[I", true)
  | 2 => ("EdgeJoin$Sides", "colorsOf", "[I", true)
  | 3 => ("EdgeJoin$Sides", "differences", "[[I", true)
  | 4 => ("EdgeJoin$Sides", "mateOf", "[I", true)
  | _ => ("EdgeJoin$Sides", "groupOf", "[I", true)
def tyX4 : Nat → FieldType := fun k => match k with
  | 0 => .int
  | 1 => .array .int
  | 2 => .array .int
  | 3 => .array (.array .int)
  | 4 => .array .int
  | _ => .array .int
abbrev wsX40 : List Cond := u_ws RX4 TX4 6
theorem nmX4 : ∀ a, a < 6 → ∀ b, b < 6 → a ≠ b → (TX4 a).2.1 ≠ (TX4 b).2.1 := by decide +kernel
theorem tyX4_ok : ∀ k, k < 6 → parseFieldDescriptor (TX4 k).2.2.1 = some (tyX4 k) := by decide +kernel
def RX5 : String := "EdgeJoin$State"
def TX5 : u_T := fun k => match k with
  | 0 => ("EdgeJoin$State", "count", "I", false)
  | 1 => ("EdgeJoin$State", "cells", "[I", true)
  | _ => ("EdgeJoin$State", "table", "LEdgeJoin$Rectangle;", true)
def tyX5 : Nat → FieldType := fun k => match k with
  | 0 => .int
  | 1 => .array .int
  | _ => .object "EdgeJoin$Rectangle"
abbrev wsX50 : List Cond := u_ws RX5 TX5 3
theorem nmX5 : ∀ a, a < 3 → ∀ b, b < 3 → a ≠ b → (TX5 a).2.1 ≠ (TX5 b).2.1 := by decide +kernel
theorem tyX5_ok : ∀ k, k < 3 → parseFieldDescriptor (TX5 k).2.2.1 = some (tyX5 k) := by decide +kernel
def RX6 : String := "EdgeJoin$Text"
def TX6 : u_T := fun k => match k with
  | 0 => ("EdgeJoin$Text", "bytes", "[B", true)
  | 1 => ("EdgeJoin$Text", "length", "I", false)
  | 2 => ("EdgeJoin$Text", "position", "I", false)
  | 3 => ("EdgeJoin$Text", "orderCount", "I", false)
  | 4 => ("EdgeJoin$Text", "letters", "[I", true)
  | _ => ("EdgeJoin$Text", "numbers", "[[I", true)
def tyX6 : Nat → FieldType := fun k => match k with
  | 0 => .array .byte
  | 1 => .int
  | 2 => .int
  | 3 => .int
  | 4 => .array .int
  | _ => .array (.array .int)
abbrev wsX60 : List Cond := u_ws RX6 TX6 6
theorem nmX6 : ∀ a, a < 6 → ∀ b, b < 6 → a ≠ b → (TX6 a).2.1 ≠ (TX6 b).2.1 := by decide +kernel
theorem tyX6_ok : ∀ k, k < 6 → parseFieldDescriptor (TX6 k).2.2.1 = some (tyX6 k) := by decide +kernel
def RX7 : String := "EdgeJoin"
def TX7 : u_T := fun k => match k with
  | 0 => ("EdgeJoin", "now", "LEdgeJoin$State;", true)
  | 1 => ("EdgeJoin", "before", "LEdgeJoin$State;", true)
  | 2 => ("EdgeJoin", "history", "LEdgeJoin$History;", true)
  | 3 => ("EdgeJoin", "sides", "LEdgeJoin$Sides;", true)
  | 4 => ("EdgeJoin", "arranger", "LEdgeJoin$Arranger;", true)
  | 5 => ("EdgeJoin", "maker", "LEdgeJoin$Maker;", true)
  | 6 => ("EdgeJoin", "text", "LEdgeJoin$Text;", true)
  | 7 => ("EdgeJoin", "badCount", "I", false)
  | 8 => ("EdgeJoin", "noCount", "I", false)
  | _ => ("EdgeJoin", "fullCount", "I", false)
def tyX7 : Nat → FieldType := fun k => match k with
  | 0 => .object "EdgeJoin$State"
  | 1 => .object "EdgeJoin$State"
  | 2 => .object "EdgeJoin$History"
  | 3 => .object "EdgeJoin$Sides"
  | 4 => .object "EdgeJoin$Arranger"
  | 5 => .object "EdgeJoin$Maker"
  | 6 => .object "EdgeJoin$Text"
  | 7 => .int
  | 8 => .int
  | _ => .int
abbrev wsX70 : List Cond := u_ws RX7 TX7 10
theorem nmX7 : ∀ a, a < 10 → ∀ b, b < 10 → a ≠ b → (TX7 a).2.1 ≠ (TX7 b).2.1 := by decide +kernel
theorem tyX7_ok : ∀ k, k < 10 → parseFieldDescriptor (TX7 k).2.2.1 = some (tyX7 k) := by decide +kernel
def RX8 : String := "EdgeJoinModel"
def TX8 : u_T := fun k => match k with
  | _ => ("", "", "", false)
def tyX8 : Nat → FieldType := fun k => match k with
  | _ => .int
abbrev wsX80 : List Cond := u_ws RX8 TX8 0
theorem nmX8 : ∀ a, a < 0 → ∀ b, b < 0 → a ≠ b → (TX8 a).2.1 ≠ (TX8 b).2.1 := by decide +kernel
theorem tyX8_ok : ∀ k, k < 0 → parseFieldDescriptor (TX8 k).2.2.1 = some (tyX8 k) := by decide +kernel
abbrev cX0_init : ByteArray := prog_2_method_1_code
abbrev cX0_findBest : ByteArray := prog_2_method_2_code
abbrev cX0_fillFrom : ByteArray := prog_2_method_3_code
abbrev cX0_fitsFrame : ByteArray := prog_2_method_4_code
abbrev cX1_init : ByteArray := prog_3_method_1_code
abbrev cX1_keep : ByteArray := prog_3_method_2_code
abbrev cX1_restore : ByteArray := prog_3_method_3_code
abbrev cX2_init : ByteArray := prog_4_method_1_code
abbrev cX2_makePieces : ByteArray := prog_4_method_2_code
abbrev cX2_drawNumber : ByteArray := prog_4_method_3_code
abbrev cX2_paintPoints : ByteArray := prog_4_method_4_code
abbrev cX2_cutPiece : ByteArray := prog_4_method_5_code
abbrev cX2_mixPieces : ByteArray := prog_4_method_6_code
abbrev cX2_turnPieces : ByteArray := prog_4_method_7_code
abbrev cX3_init : ByteArray := prog_5_method_1_code
abbrev cX3_empty : ByteArray := prog_5_method_2_code
abbrev cX3_reset : ByteArray := prog_5_method_3_code
abbrev cX3_copyFrom : ByteArray := prog_5_method_4_code
abbrev cX3_size : ByteArray := prog_5_method_5_code
abbrev cX3_hasPlace : ByteArray := prog_5_method_6_code
abbrev cX3_neighborOf : ByteArray := prog_5_method_7_code
abbrev cX3_placeOf : ByteArray := prog_5_method_8_code
abbrev cX3_turnOf : ByteArray := prog_5_method_9_code
abbrev cX3_countPieces : ByteArray := prog_5_method_10_code
abbrev cX3_canGrowAt : ByteArray := prog_5_method_11_code
abbrev cX3_removePiece : ByteArray := prog_5_method_12_code
abbrev cX4_init : ByteArray := prog_6_method_1_code
abbrev cX4_follow : ByteArray := prog_6_method_2_code
abbrev cX4_isUpToDate : ByteArray := prog_6_method_3_code
abbrev cX4_readColors : ByteArray := prog_6_method_4_code
abbrev cX4_compareSides : ByteArray := prog_6_method_5_code
abbrev cX4_differenceOf : ByteArray := prog_6_method_6_code
abbrev cX4_findMate : ByteArray := prog_6_method_7_code
abbrev cX4_joinGroups : ByteArray := prog_6_method_8_code
abbrev cX4_mergeGroups : ByteArray := prog_6_method_9_code
abbrev cX4_isFlat : ByteArray := prog_6_method_10_code
abbrev cX4_flatMask : ByteArray := prog_6_method_11_code
abbrev cX4_sortOf : ByteArray := prog_6_method_12_code
abbrev cX4_isLowerOfPair : ByteArray := prog_6_method_13_code
abbrev cX4_countPairs : ByteArray := prog_6_method_14_code
abbrev cX4_findPair : ByteArray := prog_6_method_15_code
abbrev cX4_countGroups : ByteArray := prog_6_method_16_code
abbrev cX4_countEdges : ByteArray := prog_6_method_17_code
abbrev cX4_standsBefore : ByteArray := prog_6_method_18_code
abbrev cX4_reversedColors : ByteArray := prog_6_method_19_code
abbrev cX4_touchingDifference : ByteArray := prog_6_method_20_code
abbrev cX4_addedCost : ByteArray := prog_6_method_21_code
abbrev cX4_wholeCost : ByteArray := prog_6_method_22_code
abbrev cX5_init : ByteArray := prog_7_method_1_code
abbrev cX5_copyFrom : ByteArray := prog_7_method_2_code
abbrev cX5_hasPiece : ByteArray := prog_7_method_3_code
abbrev cX5_addPiece : ByteArray := prog_7_method_4_code
abbrev cX5_dropPiece : ByteArray := prog_7_method_5_code
abbrev cX5_layTable : ByteArray := prog_7_method_6_code
abbrev cX5_takeFromTable : ByteArray := prog_7_method_7_code
abbrev cX6_init : ByteArray := prog_8_method_1_code
abbrev cX7_init : ByteArray := prog_1_method_1_code
abbrev cX7_piece : ByteArray := prog_1_method_2_code
abbrev cX7_turns : ByteArray := prog_1_method_3_code
abbrev cX7_drops : ByteArray := prog_1_method_4_code
abbrev cX7_makes : ByteArray := prog_1_method_5_code
abbrev cX7_of : ByteArray := prog_1_method_7_code
abbrev cX7_edge : ByteArray := prog_1_method_8_code
abbrev cX7_unlike : ByteArray := prog_1_method_9_code
abbrev cX7_pairs : ByteArray := prog_1_method_11_code
abbrev cX7_groups : ByteArray := prog_1_method_12_code
abbrev cX7_edges : ByteArray := prog_1_method_13_code
abbrev cX7_joins : ByteArray := prog_1_method_14_code
abbrev cX7_table : ByteArray := prog_1_method_15_code
abbrev cX7_puts : ByteArray := prog_1_method_16_code
abbrev cX7_takes : ByteArray := prog_1_method_17_code
abbrev cX7_at : ByteArray := prog_1_method_18_code
abbrev cX7_cost : ByteArray := prog_1_method_19_code
abbrev cX7_next : ByteArray := prog_1_method_20_code
abbrev cX7_back : ByteArray := prog_1_method_24_code
abbrev cX7_told : ByteArray := prog_1_method_25_code
abbrev cX7_digest : ByteArray := prog_1_method_26_code
abbrev cX7_fail : ByteArray := prog_1_method_27_code
abbrev cX7_endChange : ByteArray := prog_1_method_28_code
abbrev cX7_freshSides : ByteArray := prog_1_method_29_code
abbrev cX7_putOnTable : ByteArray := prog_1_method_30_code
abbrev cX7_findContentFor : ByteArray := prog_1_method_31_code
abbrev cX7_isWithin : ByteArray := prog_1_method_33_code
abbrev cX7_isFlag : ByteArray := prog_1_method_34_code
abbrev cX7_isLength : ByteArray := prog_1_method_35_code
abbrev cX7_isTableSize : ByteArray := prog_1_method_36_code
abbrev cX7_colorIn : ByteArray := prog_1_method_37_code
abbrev cX7_turnedCells : ByteArray := prog_1_method_38_code
abbrev cX7_turnedOnce : ByteArray := prog_1_method_39_code
abbrev cX7_sideTowards : ByteArray := prog_1_method_40_code
abbrev cL_cell : ByteArray := method_2_code
abbrev cL_up : ByteArray := method_3_code
abbrev cL_isTurned : ByteArray := method_4_code
abbrev cL_isUnlike : ByteArray := method_5_code
abbrev cL_isNext : ByteArray := method_6_code
abbrev cL_law : ByteArray := code
def RL : String := "EdgeJoinLaw"
def yX0_init : MethodName := ⟨RX0, "<init>", "()V"⟩
def yX0_findBest : MethodName := ⟨RX0, "findBest", "(LEdgeJoin$Sides;IIZZ)Z"⟩
def yX0_fillFrom : MethodName := ⟨RX0, "fillFrom", "(LEdgeJoin$Arranger;LEdgeJoin$Sides;II)V"⟩
def yX0_fitsFrame : MethodName := ⟨RX0, "fitsFrame", "(LEdgeJoin$Sides;II)Z"⟩
def yX1_init : MethodName := ⟨RX1, "<init>", "()V"⟩
def yX1_keep : MethodName := ⟨RX1, "keep", "(LEdgeJoin$State;)V"⟩
def yX1_restore : MethodName := ⟨RX1, "restore", "(LEdgeJoin$State;)V"⟩
def yX2_init : MethodName := ⟨RX2, "<init>", "()V"⟩
def yX2_makePieces : MethodName := ⟨RX2, "makePieces", "(LEdgeJoin$State;IIII)I"⟩
def yX2_drawNumber : MethodName := ⟨RX2, "drawNumber", "()I"⟩
def yX2_paintPoints : MethodName := ⟨RX2, "paintPoints", "(II)V"⟩
def yX2_cutPiece : MethodName := ⟨RX2, "cutPiece", "(III)I"⟩
def yX2_mixPieces : MethodName := ⟨RX2, "mixPieces", "(LEdgeJoin$State;)V"⟩
def yX2_turnPieces : MethodName := ⟨RX2, "turnPieces", "(LEdgeJoin$State;)V"⟩
def yX3_init : MethodName := ⟨RX3, "<init>", "()V"⟩
def yX3_empty : MethodName := ⟨RX3, "empty", "()V"⟩
def yX3_reset : MethodName := ⟨RX3, "reset", "(II)V"⟩
def yX3_copyFrom : MethodName := ⟨RX3, "copyFrom", "(LEdgeJoin$Rectangle;)V"⟩
def yX3_size : MethodName := ⟨RX3, "size", "()I"⟩
def yX3_hasPlace : MethodName := ⟨RX3, "hasPlace", "(I)Z"⟩
def yX3_neighborOf : MethodName := ⟨RX3, "neighborOf", "(II)I"⟩
def yX3_placeOf : MethodName := ⟨RX3, "placeOf", "(I)I"⟩
def yX3_turnOf : MethodName := ⟨RX3, "turnOf", "(I)I"⟩
def yX3_countPieces : MethodName := ⟨RX3, "countPieces", "()I"⟩
def yX3_canGrowAt : MethodName := ⟨RX3, "canGrowAt", "(I)Z"⟩
def yX3_removePiece : MethodName := ⟨RX3, "removePiece", "(I)V"⟩
def yX4_init : MethodName := ⟨RX4, "<init>", "()V"⟩
def yX4_follow : MethodName := ⟨RX4, "follow", "(LEdgeJoin$State;)V"⟩
def yX4_isUpToDate : MethodName := ⟨RX4, "isUpToDate", "(LEdgeJoin$State;)Z"⟩
def yX4_readColors : MethodName := ⟨RX4, "readColors", "()V"⟩
def yX4_compareSides : MethodName := ⟨RX4, "compareSides", "()V"⟩
def yX4_differenceOf : MethodName := ⟨RX4, "differenceOf", "(II)I"⟩
def yX4_findMate : MethodName := ⟨RX4, "findMate", "(I)I"⟩
def yX4_joinGroups : MethodName := ⟨RX4, "joinGroups", "()V"⟩
def yX4_mergeGroups : MethodName := ⟨RX4, "mergeGroups", "(II)V"⟩
def yX4_isFlat : MethodName := ⟨RX4, "isFlat", "(I)Z"⟩
def yX4_flatMask : MethodName := ⟨RX4, "flatMask", "(I)I"⟩
def yX4_sortOf : MethodName := ⟨RX4, "sortOf", "(I)I"⟩
def yX4_isLowerOfPair : MethodName := ⟨RX4, "isLowerOfPair", "(I)Z"⟩
def yX4_countPairs : MethodName := ⟨RX4, "countPairs", "()I"⟩
def yX4_findPair : MethodName := ⟨RX4, "findPair", "(I)I"⟩
def yX4_countGroups : MethodName := ⟨RX4, "countGroups", "()I"⟩
def yX4_countEdges : MethodName := ⟨RX4, "countEdges", "(Z)I"⟩
def yX4_standsBefore : MethodName := ⟨RX4, "standsBefore", "(IZ)Z"⟩
def yX4_reversedColors : MethodName := ⟨RX4, "reversedColors", "(I)I"⟩
def yX4_touchingDifference : MethodName := ⟨RX4, "touchingDifference", "(III)I"⟩
def yX4_addedCost : MethodName := ⟨RX4, "addedCost", "(LEdgeJoin$Rectangle;II)I"⟩
def yX4_wholeCost : MethodName := ⟨RX4, "wholeCost", "(LEdgeJoin$Rectangle;)I"⟩
def yX5_init : MethodName := ⟨RX5, "<init>", "()V"⟩
def yX5_copyFrom : MethodName := ⟨RX5, "copyFrom", "(LEdgeJoin$State;)V"⟩
def yX5_hasPiece : MethodName := ⟨RX5, "hasPiece", "(I)Z"⟩
def yX5_addPiece : MethodName := ⟨RX5, "addPiece", "(I)I"⟩
def yX5_dropPiece : MethodName := ⟨RX5, "dropPiece", "(I)I"⟩
def yX5_layTable : MethodName := ⟨RX5, "layTable", "(II)I"⟩
def yX5_takeFromTable : MethodName := ⟨RX5, "takeFromTable", "(I)I"⟩
def yX6_init : MethodName := ⟨RX6, "<init>", "()V"⟩
def yX7_init : MethodName := ⟨RX7, "<init>", "()V"⟩
def yX7_piece : MethodName := ⟨RX7, "piece", "(I)I"⟩
def yX7_turns : MethodName := ⟨RX7, "turns", "(II)I"⟩
def yX7_drops : MethodName := ⟨RX7, "drops", "(I)I"⟩
def yX7_makes : MethodName := ⟨RX7, "makes", "(IIII)I"⟩
def yX7_of : MethodName := ⟨RX7, "of", "(II)I"⟩
def yX7_edge : MethodName := ⟨RX7, "edge", "(II)I"⟩
def yX7_unlike : MethodName := ⟨RX7, "unlike", "(IIII)I"⟩
def yX7_pairs : MethodName := ⟨RX7, "pairs", "(I)I"⟩
def yX7_groups : MethodName := ⟨RX7, "groups", "()I"⟩
def yX7_edges : MethodName := ⟨RX7, "edges", "(I)I"⟩
def yX7_joins : MethodName := ⟨RX7, "joins", "(IIIII)I"⟩
def yX7_table : MethodName := ⟨RX7, "table", "(II)I"⟩
def yX7_puts : MethodName := ⟨RX7, "puts", "(III)I"⟩
def yX7_takes : MethodName := ⟨RX7, "takes", "(I)I"⟩
def yX7_at : MethodName := ⟨RX7, "at", "(I)I"⟩
def yX7_cost : MethodName := ⟨RX7, "cost", "()I"⟩
def yX7_next : MethodName := ⟨RX7, "next", "(II)I"⟩
def yX7_back : MethodName := ⟨RX7, "back", "()I"⟩
def yX7_told : MethodName := ⟨RX7, "told", "(I)I"⟩
def yX7_digest : MethodName := ⟨RX7, "digest", "()J"⟩
def yX7_fail : MethodName := ⟨RX7, "fail", "(I)I"⟩
def yX7_endChange : MethodName := ⟨RX7, "endChange", "(I)I"⟩
def yX7_freshSides : MethodName := ⟨RX7, "freshSides", "()LEdgeJoin$Sides;"⟩
def yX7_putOnTable : MethodName := ⟨RX7, "putOnTable", "(III)I"⟩
def yX7_findContentFor : MethodName := ⟨RX7, "findContentFor", "(IZ)I"⟩
def yX7_isWithin : MethodName := ⟨RX7, "isWithin", "(II)Z"⟩
def yX7_isFlag : MethodName := ⟨RX7, "isFlag", "(I)Z"⟩
def yX7_isLength : MethodName := ⟨RX7, "isLength", "(I)Z"⟩
def yX7_isTableSize : MethodName := ⟨RX7, "isTableSize", "(II)Z"⟩
def yX7_colorIn : MethodName := ⟨RX7, "colorIn", "(II)I"⟩
def yX7_turnedCells : MethodName := ⟨RX7, "turnedCells", "(II)I"⟩
def yX7_turnedOnce : MethodName := ⟨RX7, "turnedOnce", "(I)I"⟩
def yX7_sideTowards : MethodName := ⟨RX7, "sideTowards", "(II)I"⟩
def yL_cell : MethodName := ⟨RL, "cell", "([II)I"⟩
def yL_up : MethodName := ⟨RL, "up", "(II)I"⟩
def yL_isTurned : MethodName := ⟨RL, "isTurned", "(LEdgeJoin;II)Z"⟩
def yL_isUnlike : MethodName := ⟨RL, "isUnlike", "(LEdgeJoin;II)Z"⟩
def yL_isNext : MethodName := ⟨RL, "isNext", "(LEdgeJoin;I)Z"⟩
def yL_law : MethodName := ⟨RL, "law", "([I)Z"⟩
abbrev zCl : List vw_C := [(RX0, TX0, 6), (RX1, TX1, 3), (RX2, TX2, 2), (RX3, TX3, 3), (RX4, TX4, 6), (RX5, TX5, 3), (RX6, TX6, 6), (RX7, TX7, 10)]
