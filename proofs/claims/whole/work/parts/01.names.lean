-- ===== PART A: goes FIRST, ahead of the names: the tables' words, and 'selects' of the private methods out of them =====
/-- a private method of a class that the tables say can be made, by its rows of tables_1 -/
def lw_okq (q : MethodName × Nat) : Prop := (q.1.cls ≠ "java/lang/invoke/MethodHandle" ∧ q.1.cls ≠ "java/lang/invoke/VarHandle") ∧ Cond.instantiable q.1.cls q.2 ∈ tables_1 ∧ Cond.privateMethod q.1 ∈ tables_1 ∧ Cond.instanceMethod q.1 ∈ tables_1
theorem lw_p0 : lw_okq (⟨"EdgeJoin$Rectangle", "empty", "()V"⟩, 3) := ⟨⟨by decide +kernel, by decide +kernel⟩, List.mem_of_getElem? (i := 27) (by decide +kernel), List.mem_of_getElem? (i := 33) (by decide +kernel), List.mem_of_getElem? (i := 34) (by decide +kernel)⟩
theorem lw_p1 : lw_okq (⟨"EdgeJoin", "endChange", "(I)I"⟩, 10) := ⟨⟨by decide +kernel, by decide +kernel⟩, List.mem_of_getElem? (i := 13) (by decide +kernel), List.mem_of_getElem? (i := 248) (by decide +kernel), List.mem_of_getElem? (i := 249) (by decide +kernel)⟩
theorem lw_p2 : lw_okq (⟨"EdgeJoin", "fail", "(I)I"⟩, 10) := ⟨⟨by decide +kernel, by decide +kernel⟩, List.mem_of_getElem? (i := 13) (by decide +kernel), List.mem_of_getElem? (i := 252) (by decide +kernel), List.mem_of_getElem? (i := 253) (by decide +kernel)⟩
theorem lw_p3 : lw_okq (⟨"EdgeJoin$Maker", "paintPoints", "(II)V"⟩, 2) := ⟨⟨by decide +kernel, by decide +kernel⟩, List.mem_of_getElem? (i := 153) (by decide +kernel), List.mem_of_getElem? (i := 316) (by decide +kernel), List.mem_of_getElem? (i := 317) (by decide +kernel)⟩
theorem lw_p4 : lw_okq (⟨"EdgeJoin$Maker", "drawNumber", "()I"⟩, 2) := ⟨⟨by decide +kernel, by decide +kernel⟩, List.mem_of_getElem? (i := 153) (by decide +kernel), List.mem_of_getElem? (i := 320) (by decide +kernel), List.mem_of_getElem? (i := 321) (by decide +kernel)⟩
theorem lw_p5 : lw_okq (⟨"EdgeJoin$Maker", "cutPiece", "(III)I"⟩, 2) := ⟨⟨by decide +kernel, by decide +kernel⟩, List.mem_of_getElem? (i := 153) (by decide +kernel), List.mem_of_getElem? (i := 328) (by decide +kernel), List.mem_of_getElem? (i := 329) (by decide +kernel)⟩
theorem lw_p6 : lw_okq (⟨"EdgeJoin$Maker", "mixPieces", "(LEdgeJoin$State;)V"⟩, 2) := ⟨⟨by decide +kernel, by decide +kernel⟩, List.mem_of_getElem? (i := 153) (by decide +kernel), List.mem_of_getElem? (i := 332) (by decide +kernel), List.mem_of_getElem? (i := 333) (by decide +kernel)⟩
theorem lw_p7 : lw_okq (⟨"EdgeJoin$Maker", "turnPieces", "(LEdgeJoin$State;)V"⟩, 2) := ⟨⟨by decide +kernel, by decide +kernel⟩, List.mem_of_getElem? (i := 153) (by decide +kernel), List.mem_of_getElem? (i := 336) (by decide +kernel), List.mem_of_getElem? (i := 337) (by decide +kernel)⟩
theorem lw_p8 : lw_okq (⟨"EdgeJoin", "freshSides", "()LEdgeJoin$Sides;"⟩, 10) := ⟨⟨by decide +kernel, by decide +kernel⟩, List.mem_of_getElem? (i := 13) (by decide +kernel), List.mem_of_getElem? (i := 353) (by decide +kernel), List.mem_of_getElem? (i := 354) (by decide +kernel)⟩
theorem lw_p9 : lw_okq (⟨"EdgeJoin$Sides", "isUpToDate", "(LEdgeJoin$State;)Z"⟩, 6) := ⟨⟨by decide +kernel, by decide +kernel⟩, List.mem_of_getElem? (i := 92) (by decide +kernel), List.mem_of_getElem? (i := 361) (by decide +kernel), List.mem_of_getElem? (i := 362) (by decide +kernel)⟩
theorem lw_p10 : lw_okq (⟨"EdgeJoin$Sides", "readColors", "()V"⟩, 6) := ⟨⟨by decide +kernel, by decide +kernel⟩, List.mem_of_getElem? (i := 92) (by decide +kernel), List.mem_of_getElem? (i := 366) (by decide +kernel), List.mem_of_getElem? (i := 367) (by decide +kernel)⟩
theorem lw_p11 : lw_okq (⟨"EdgeJoin$Sides", "compareSides", "()V"⟩, 6) := ⟨⟨by decide +kernel, by decide +kernel⟩, List.mem_of_getElem? (i := 92) (by decide +kernel), List.mem_of_getElem? (i := 373) (by decide +kernel), List.mem_of_getElem? (i := 374) (by decide +kernel)⟩
theorem lw_p12 : lw_okq (⟨"EdgeJoin$Sides", "findMate", "(I)I"⟩, 6) := ⟨⟨by decide +kernel, by decide +kernel⟩, List.mem_of_getElem? (i := 92) (by decide +kernel), List.mem_of_getElem? (i := 383) (by decide +kernel), List.mem_of_getElem? (i := 384) (by decide +kernel)⟩
theorem lw_p13 : lw_okq (⟨"EdgeJoin$Sides", "joinGroups", "()V"⟩, 6) := ⟨⟨by decide +kernel, by decide +kernel⟩, List.mem_of_getElem? (i := 92) (by decide +kernel), List.mem_of_getElem? (i := 391) (by decide +kernel), List.mem_of_getElem? (i := 392) (by decide +kernel)⟩
theorem lw_p14 : lw_okq (⟨"EdgeJoin$Sides", "isLowerOfPair", "(I)Z"⟩, 6) := ⟨⟨by decide +kernel, by decide +kernel⟩, List.mem_of_getElem? (i := 92) (by decide +kernel), List.mem_of_getElem? (i := 395) (by decide +kernel), List.mem_of_getElem? (i := 396) (by decide +kernel)⟩
theorem lw_p15 : lw_okq (⟨"EdgeJoin$Sides", "mergeGroups", "(II)V"⟩, 6) := ⟨⟨by decide +kernel, by decide +kernel⟩, List.mem_of_getElem? (i := 92) (by decide +kernel), List.mem_of_getElem? (i := 399) (by decide +kernel), List.mem_of_getElem? (i := 400) (by decide +kernel)⟩
def lw_privs_1 : List (MethodName × Nat) := [(⟨"EdgeJoin$Rectangle", "empty", "()V"⟩, 3), (⟨"EdgeJoin", "endChange", "(I)I"⟩, 10), (⟨"EdgeJoin", "fail", "(I)I"⟩, 10), (⟨"EdgeJoin$Maker", "paintPoints", "(II)V"⟩, 2), (⟨"EdgeJoin$Maker", "drawNumber", "()I"⟩, 2), (⟨"EdgeJoin$Maker", "cutPiece", "(III)I"⟩, 2), (⟨"EdgeJoin$Maker", "mixPieces", "(LEdgeJoin$State;)V"⟩, 2), (⟨"EdgeJoin$Maker", "turnPieces", "(LEdgeJoin$State;)V"⟩, 2), (⟨"EdgeJoin", "freshSides", "()LEdgeJoin$Sides;"⟩, 10), (⟨"EdgeJoin$Sides", "isUpToDate", "(LEdgeJoin$State;)Z"⟩, 6), (⟨"EdgeJoin$Sides", "readColors", "()V"⟩, 6), (⟨"EdgeJoin$Sides", "compareSides", "()V"⟩, 6), (⟨"EdgeJoin$Sides", "findMate", "(I)I"⟩, 6), (⟨"EdgeJoin$Sides", "joinGroups", "()V"⟩, 6), (⟨"EdgeJoin$Sides", "isLowerOfPair", "(I)Z"⟩, 6), (⟨"EdgeJoin$Sides", "mergeGroups", "(II)V"⟩, 6)]
theorem lw_r1 : ∀ q ∈ lw_privs_1, lw_okq q := List.forall_mem_cons.mpr ⟨lw_p0, List.forall_mem_cons.mpr ⟨lw_p1, List.forall_mem_cons.mpr ⟨lw_p2, List.forall_mem_cons.mpr ⟨lw_p3, List.forall_mem_cons.mpr ⟨lw_p4, List.forall_mem_cons.mpr ⟨lw_p5, List.forall_mem_cons.mpr ⟨lw_p6, List.forall_mem_cons.mpr ⟨lw_p7, List.forall_mem_cons.mpr ⟨lw_p8, List.forall_mem_cons.mpr ⟨lw_p9, List.forall_mem_cons.mpr ⟨lw_p10, List.forall_mem_cons.mpr ⟨lw_p11, List.forall_mem_cons.mpr ⟨lw_p12, List.forall_mem_cons.mpr ⟨lw_p13, List.forall_mem_cons.mpr ⟨lw_p14, List.forall_mem_cons.mpr ⟨lw_p15, fun _ h => absurd h List.not_mem_nil⟩⟩⟩⟩⟩⟩⟩⟩⟩⟩⟩⟩⟩⟩⟩⟩
theorem lw_p16 : lw_okq (⟨"EdgeJoin$Sides", "standsBefore", "(IZ)Z"⟩, 6) := ⟨⟨by decide +kernel, by decide +kernel⟩, List.mem_of_getElem? (i := 92) (by decide +kernel), List.mem_of_getElem? (i := 466) (by decide +kernel), List.mem_of_getElem? (i := 467) (by decide +kernel)⟩
theorem lw_p17 : lw_okq (⟨"EdgeJoin$Sides", "touchingDifference", "(III)I"⟩, 6) := ⟨⟨by decide +kernel, by decide +kernel⟩, List.mem_of_getElem? (i := 92) (by decide +kernel), List.mem_of_getElem? (i := 495) (by decide +kernel), List.mem_of_getElem? (i := 496) (by decide +kernel)⟩
theorem lw_p18 : lw_okq (⟨"EdgeJoin$Arranger", "fitsFrame", "(LEdgeJoin$Sides;II)Z"⟩, 6) := ⟨⟨by decide +kernel, by decide +kernel⟩, List.mem_of_getElem? (i := 123) (by decide +kernel), List.mem_of_getElem? (i := 502) (by decide +kernel), List.mem_of_getElem? (i := 503) (by decide +kernel)⟩
theorem lw_p19 : lw_okq (⟨"EdgeJoin", "putOnTable", "(III)I"⟩, 10) := ⟨⟨by decide +kernel, by decide +kernel⟩, List.mem_of_getElem? (i := 13) (by decide +kernel), List.mem_of_getElem? (i := 527) (by decide +kernel), List.mem_of_getElem? (i := 528) (by decide +kernel)⟩
theorem lw_p20 : lw_okq (⟨"EdgeJoin", "findContentFor", "(IZ)I"⟩, 10) := ⟨⟨by decide +kernel, by decide +kernel⟩, List.mem_of_getElem? (i := 13) (by decide +kernel), List.mem_of_getElem? (i := 570) (by decide +kernel), List.mem_of_getElem? (i := 571) (by decide +kernel)⟩
theorem lw_p21 : lw_okq (⟨"EdgeJoin$Text", "skipSpaces", "()V"⟩, 6) := ⟨⟨by decide +kernel, by decide +kernel⟩, List.mem_of_getElem? (i := 166) (by decide +kernel), List.mem_of_getElem? (i := 594) (by decide +kernel), List.mem_of_getElem? (i := 595) (by decide +kernel)⟩
theorem lw_p22 : lw_okq (⟨"EdgeJoin$Text", "parseOrder", "(I)Z"⟩, 6) := ⟨⟨by decide +kernel, by decide +kernel⟩, List.mem_of_getElem? (i := 166) (by decide +kernel), List.mem_of_getElem? (i := 598) (by decide +kernel), List.mem_of_getElem? (i := 599) (by decide +kernel)⟩
theorem lw_p23 : lw_okq (⟨"EdgeJoin$Text", "byteHere", "()I"⟩, 6) := ⟨⟨by decide +kernel, by decide +kernel⟩, List.mem_of_getElem? (i := 166) (by decide +kernel), List.mem_of_getElem? (i := 602) (by decide +kernel), List.mem_of_getElem? (i := 603) (by decide +kernel)⟩
theorem lw_p24 : lw_okq (⟨"EdgeJoin$Text", "parseCells", "(I)Z"⟩, 6) := ⟨⟨by decide +kernel, by decide +kernel⟩, List.mem_of_getElem? (i := 166) (by decide +kernel), List.mem_of_getElem? (i := 609) (by decide +kernel), List.mem_of_getElem? (i := 610) (by decide +kernel)⟩
theorem lw_p25 : lw_okq (⟨"EdgeJoin$Text", "parseNumbers", "(II)Z"⟩, 6) := ⟨⟨by decide +kernel, by decide +kernel⟩, List.mem_of_getElem? (i := 166) (by decide +kernel), List.mem_of_getElem? (i := 614) (by decide +kernel), List.mem_of_getElem? (i := 615) (by decide +kernel)⟩
theorem lw_p26 : lw_okq (⟨"EdgeJoin$Text", "isDigitHere", "()Z"⟩, 6) := ⟨⟨by decide +kernel, by decide +kernel⟩, List.mem_of_getElem? (i := 166) (by decide +kernel), List.mem_of_getElem? (i := 618) (by decide +kernel), List.mem_of_getElem? (i := 619) (by decide +kernel)⟩
theorem lw_p27 : lw_okq (⟨"EdgeJoin", "obey", "(I)I"⟩, 10) := ⟨⟨by decide +kernel, by decide +kernel⟩, List.mem_of_getElem? (i := 13) (by decide +kernel), List.mem_of_getElem? (i := 622) (by decide +kernel), List.mem_of_getElem? (i := 623) (by decide +kernel)⟩
theorem lw_p28 : lw_okq (⟨"EdgeJoinModel", "laysTable", "(II)V"⟩, 17) := ⟨⟨by decide +kernel, by decide +kernel⟩, List.mem_of_getElem? (i := 651) (by decide +kernel), List.mem_of_getElem? (i := 657) (by decide +kernel), List.mem_of_getElem? (i := 658) (by decide +kernel)⟩
theorem lw_p29 : lw_okq (⟨"EdgeJoinModel", "many", "()I"⟩, 17) := ⟨⟨by decide +kernel, by decide +kernel⟩, List.mem_of_getElem? (i := 651) (by decide +kernel), List.mem_of_getElem? (i := 717) (by decide +kernel), List.mem_of_getElem? (i := 718) (by decide +kernel)⟩
theorem lw_p30 : lw_okq (⟨"EdgeJoinModel", "refuses", "(I)I"⟩, 17) := ⟨⟨by decide +kernel, by decide +kernel⟩, List.mem_of_getElem? (i := 651) (by decide +kernel), List.mem_of_getElem? (i := 721) (by decide +kernel), List.mem_of_getElem? (i := 722) (by decide +kernel)⟩
theorem lw_p31 : lw_okq (⟨"EdgeJoinModel", "keep", "()V"⟩, 17) := ⟨⟨by decide +kernel, by decide +kernel⟩, List.mem_of_getElem? (i := 651) (by decide +kernel), List.mem_of_getElem? (i := 725) (by decide +kernel), List.mem_of_getElem? (i := 726) (by decide +kernel)⟩
def lw_privs_2 : List (MethodName × Nat) := [(⟨"EdgeJoin$Sides", "standsBefore", "(IZ)Z"⟩, 6), (⟨"EdgeJoin$Sides", "touchingDifference", "(III)I"⟩, 6), (⟨"EdgeJoin$Arranger", "fitsFrame", "(LEdgeJoin$Sides;II)Z"⟩, 6), (⟨"EdgeJoin", "putOnTable", "(III)I"⟩, 10), (⟨"EdgeJoin", "findContentFor", "(IZ)I"⟩, 10), (⟨"EdgeJoin$Text", "skipSpaces", "()V"⟩, 6), (⟨"EdgeJoin$Text", "parseOrder", "(I)Z"⟩, 6), (⟨"EdgeJoin$Text", "byteHere", "()I"⟩, 6), (⟨"EdgeJoin$Text", "parseCells", "(I)Z"⟩, 6), (⟨"EdgeJoin$Text", "parseNumbers", "(II)Z"⟩, 6), (⟨"EdgeJoin$Text", "isDigitHere", "()Z"⟩, 6), (⟨"EdgeJoin", "obey", "(I)I"⟩, 10), (⟨"EdgeJoinModel", "laysTable", "(II)V"⟩, 17), (⟨"EdgeJoinModel", "many", "()I"⟩, 17), (⟨"EdgeJoinModel", "refuses", "(I)I"⟩, 17), (⟨"EdgeJoinModel", "keep", "()V"⟩, 17)]
theorem lw_r2 : ∀ q ∈ lw_privs_2, lw_okq q := List.forall_mem_cons.mpr ⟨lw_p16, List.forall_mem_cons.mpr ⟨lw_p17, List.forall_mem_cons.mpr ⟨lw_p18, List.forall_mem_cons.mpr ⟨lw_p19, List.forall_mem_cons.mpr ⟨lw_p20, List.forall_mem_cons.mpr ⟨lw_p21, List.forall_mem_cons.mpr ⟨lw_p22, List.forall_mem_cons.mpr ⟨lw_p23, List.forall_mem_cons.mpr ⟨lw_p24, List.forall_mem_cons.mpr ⟨lw_p25, List.forall_mem_cons.mpr ⟨lw_p26, List.forall_mem_cons.mpr ⟨lw_p27, List.forall_mem_cons.mpr ⟨lw_p28, List.forall_mem_cons.mpr ⟨lw_p29, List.forall_mem_cons.mpr ⟨lw_p30, List.forall_mem_cons.mpr ⟨lw_p31, fun _ h => absurd h List.not_mem_nil⟩⟩⟩⟩⟩⟩⟩⟩⟩⟩⟩⟩⟩⟩⟩⟩
theorem lw_p32 : lw_okq (⟨"EdgeJoinModel", "pieceNow", "(I)I"⟩, 17) := ⟨⟨by decide +kernel, by decide +kernel⟩, List.mem_of_getElem? (i := 651) (by decide +kernel), List.mem_of_getElem? (i := 729) (by decide +kernel), List.mem_of_getElem? (i := 730) (by decide +kernel)⟩
theorem lw_p33 : lw_okq (⟨"EdgeJoinModel", "isPiece", "(I)Z"⟩, 17) := ⟨⟨by decide +kernel, by decide +kernel⟩, List.mem_of_getElem? (i := 651) (by decide +kernel), List.mem_of_getElem? (i := 737) (by decide +kernel), List.mem_of_getElem? (i := 738) (by decide +kernel)⟩
theorem lw_p34 : lw_okq (⟨"EdgeJoinModel", "bits", "(I)I"⟩, 17) := ⟨⟨by decide +kernel, by decide +kernel⟩, List.mem_of_getElem? (i := 651) (by decide +kernel), List.mem_of_getElem? (i := 745) (by decide +kernel), List.mem_of_getElem? (i := 746) (by decide +kernel)⟩
theorem lw_p35 : lw_okq (⟨"EdgeJoinModel", "lies", "(I)I"⟩, 17) := ⟨⟨by decide +kernel, by decide +kernel⟩, List.mem_of_getElem? (i := 651) (by decide +kernel), List.mem_of_getElem? (i := 762) (by decide +kernel), List.mem_of_getElem? (i := 763) (by decide +kernel)⟩
theorem lw_p36 : lw_okq (⟨"EdgeJoinModel", "canMake", "(IIII)I"⟩, 17) := ⟨⟨by decide +kernel, by decide +kernel⟩, List.mem_of_getElem? (i := 651) (by decide +kernel), List.mem_of_getElem? (i := 770) (by decide +kernel), List.mem_of_getElem? (i := 771) (by decide +kernel)⟩
theorem lw_p37 : lw_okq (⟨"EdgeJoinModel", "makeNow", "(IIII)I"⟩, 17) := ⟨⟨by decide +kernel, by decide +kernel⟩, List.mem_of_getElem? (i := 651) (by decide +kernel), List.mem_of_getElem? (i := 776) (by decide +kernel), List.mem_of_getElem? (i := 777) (by decide +kernel)⟩
theorem lw_p38 : lw_okq (⟨"EdgeJoinModel", "ofPiece", "(II)I"⟩, 17) := ⟨⟨by decide +kernel, by decide +kernel⟩, List.mem_of_getElem? (i := 651) (by decide +kernel), List.mem_of_getElem? (i := 796) (by decide +kernel), List.mem_of_getElem? (i := 797) (by decide +kernel)⟩
theorem lw_p39 : lw_okq (⟨"EdgeJoinModel", "sort", "(I)I"⟩, 17) := ⟨⟨by decide +kernel, by decide +kernel⟩, List.mem_of_getElem? (i := 651) (by decide +kernel), List.mem_of_getElem? (i := 800) (by decide +kernel), List.mem_of_getElem? (i := 801) (by decide +kernel)⟩
theorem lw_p40 : lw_okq (⟨"EdgeJoinModel", "flats", "(I)I"⟩, 17) := ⟨⟨by decide +kernel, by decide +kernel⟩, List.mem_of_getElem? (i := 651) (by decide +kernel), List.mem_of_getElem? (i := 804) (by decide +kernel), List.mem_of_getElem? (i := 805) (by decide +kernel)⟩
theorem lw_p41 : lw_okq (⟨"EdgeJoinModel", "isFlat", "(II)Z"⟩, 17) := ⟨⟨by decide +kernel, by decide +kernel⟩, List.mem_of_getElem? (i := 651) (by decide +kernel), List.mem_of_getElem? (i := 808) (by decide +kernel), List.mem_of_getElem? (i := 809) (by decide +kernel)⟩
theorem lw_p42 : lw_okq (⟨"EdgeJoinModel", "laysGroups", "()V"⟩, 17) := ⟨⟨by decide +kernel, by decide +kernel⟩, List.mem_of_getElem? (i := 651) (by decide +kernel), List.mem_of_getElem? (i := 818) (by decide +kernel), List.mem_of_getElem? (i := 819) (by decide +kernel)⟩
theorem lw_p43 : lw_okq (⟨"EdgeJoinModel", "laysMates", "()V"⟩, 17) := ⟨⟨by decide +kernel, by decide +kernel⟩, List.mem_of_getElem? (i := 651) (by decide +kernel), List.mem_of_getElem? (i := 822) (by decide +kernel), List.mem_of_getElem? (i := 823) (by decide +kernel)⟩
theorem lw_p44 : lw_okq (⟨"EdgeJoinModel", "mateOf", "(II)I"⟩, 17) := ⟨⟨by decide +kernel, by decide +kernel⟩, List.mem_of_getElem? (i := 651) (by decide +kernel), List.mem_of_getElem? (i := 826) (by decide +kernel), List.mem_of_getElem? (i := 827) (by decide +kernel)⟩
theorem lw_p45 : lw_okq (⟨"EdgeJoinModel", "unlikeOf", "(IIII)I"⟩, 17) := ⟨⟨by decide +kernel, by decide +kernel⟩, List.mem_of_getElem? (i := 651) (by decide +kernel), List.mem_of_getElem? (i := 830) (by decide +kernel), List.mem_of_getElem? (i := 831) (by decide +kernel)⟩
theorem lw_p46 : lw_okq (⟨"EdgeJoinModel", "isPair", "(I)Z"⟩, 17) := ⟨⟨by decide +kernel, by decide +kernel⟩, List.mem_of_getElem? (i := 651) (by decide +kernel), List.mem_of_getElem? (i := 834) (by decide +kernel), List.mem_of_getElem? (i := 835) (by decide +kernel)⟩
theorem lw_p47 : lw_okq (⟨"EdgeJoinModel", "placeOf", "(I)I"⟩, 17) := ⟨⟨by decide +kernel, by decide +kernel⟩, List.mem_of_getElem? (i := 651) (by decide +kernel), List.mem_of_getElem? (i := 838) (by decide +kernel), List.mem_of_getElem? (i := 839) (by decide +kernel)⟩
def lw_privs_3 : List (MethodName × Nat) := [(⟨"EdgeJoinModel", "pieceNow", "(I)I"⟩, 17), (⟨"EdgeJoinModel", "isPiece", "(I)Z"⟩, 17), (⟨"EdgeJoinModel", "bits", "(I)I"⟩, 17), (⟨"EdgeJoinModel", "lies", "(I)I"⟩, 17), (⟨"EdgeJoinModel", "canMake", "(IIII)I"⟩, 17), (⟨"EdgeJoinModel", "makeNow", "(IIII)I"⟩, 17), (⟨"EdgeJoinModel", "ofPiece", "(II)I"⟩, 17), (⟨"EdgeJoinModel", "sort", "(I)I"⟩, 17), (⟨"EdgeJoinModel", "flats", "(I)I"⟩, 17), (⟨"EdgeJoinModel", "isFlat", "(II)Z"⟩, 17), (⟨"EdgeJoinModel", "laysGroups", "()V"⟩, 17), (⟨"EdgeJoinModel", "laysMates", "()V"⟩, 17), (⟨"EdgeJoinModel", "mateOf", "(II)I"⟩, 17), (⟨"EdgeJoinModel", "unlikeOf", "(IIII)I"⟩, 17), (⟨"EdgeJoinModel", "isPair", "(I)Z"⟩, 17), (⟨"EdgeJoinModel", "placeOf", "(I)I"⟩, 17)]
theorem lw_r3 : ∀ q ∈ lw_privs_3, lw_okq q := List.forall_mem_cons.mpr ⟨lw_p32, List.forall_mem_cons.mpr ⟨lw_p33, List.forall_mem_cons.mpr ⟨lw_p34, List.forall_mem_cons.mpr ⟨lw_p35, List.forall_mem_cons.mpr ⟨lw_p36, List.forall_mem_cons.mpr ⟨lw_p37, List.forall_mem_cons.mpr ⟨lw_p38, List.forall_mem_cons.mpr ⟨lw_p39, List.forall_mem_cons.mpr ⟨lw_p40, List.forall_mem_cons.mpr ⟨lw_p41, List.forall_mem_cons.mpr ⟨lw_p42, List.forall_mem_cons.mpr ⟨lw_p43, List.forall_mem_cons.mpr ⟨lw_p44, List.forall_mem_cons.mpr ⟨lw_p45, List.forall_mem_cons.mpr ⟨lw_p46, List.forall_mem_cons.mpr ⟨lw_p47, fun _ h => absurd h List.not_mem_nil⟩⟩⟩⟩⟩⟩⟩⟩⟩⟩⟩⟩⟩⟩⟩⟩
theorem lw_p48 : lw_okq (⟨"EdgeJoinModel", "places", "()I"⟩, 17) := ⟨⟨by decide +kernel, by decide +kernel⟩, List.mem_of_getElem? (i := 651) (by decide +kernel), List.mem_of_getElem? (i := 842) (by decide +kernel), List.mem_of_getElem? (i := 843) (by decide +kernel)⟩
theorem lw_p49 : lw_okq (⟨"EdgeJoinModel", "wide", "()I"⟩, 17) := ⟨⟨by decide +kernel, by decide +kernel⟩, List.mem_of_getElem? (i := 651) (by decide +kernel), List.mem_of_getElem? (i := 846) (by decide +kernel), List.mem_of_getElem? (i := 847) (by decide +kernel)⟩
theorem lw_p50 : lw_okq (⟨"EdgeJoinModel", "high", "()I"⟩, 17) := ⟨⟨by decide +kernel, by decide +kernel⟩, List.mem_of_getElem? (i := 651) (by decide +kernel), List.mem_of_getElem? (i := 850) (by decide +kernel), List.mem_of_getElem? (i := 851) (by decide +kernel)⟩
theorem lw_p51 : lw_okq (⟨"EdgeJoinModel", "pairsOf", "(I)I"⟩, 17) := ⟨⟨by decide +kernel, by decide +kernel⟩, List.mem_of_getElem? (i := 651) (by decide +kernel), List.mem_of_getElem? (i := 873) (by decide +kernel), List.mem_of_getElem? (i := 874) (by decide +kernel)⟩
theorem lw_p52 : lw_okq (⟨"EdgeJoinModel", "edgesOf", "(I)I"⟩, 17) := ⟨⟨by decide +kernel, by decide +kernel⟩, List.mem_of_getElem? (i := 651) (by decide +kernel), List.mem_of_getElem? (i := 885) (by decide +kernel), List.mem_of_getElem? (i := 886) (by decide +kernel)⟩
theorem lw_p53 : lw_okq (⟨"EdgeJoinModel", "toldEdge", "(II)I"⟩, 17) := ⟨⟨by decide +kernel, by decide +kernel⟩, List.mem_of_getElem? (i := 651) (by decide +kernel), List.mem_of_getElem? (i := 889) (by decide +kernel), List.mem_of_getElem? (i := 890) (by decide +kernel)⟩
theorem lw_p54 : lw_okq (⟨"EdgeJoinModel", "findsJoin", "(IIII)Z"⟩, 17) := ⟨⟨by decide +kernel, by decide +kernel⟩, List.mem_of_getElem? (i := 651) (by decide +kernel), List.mem_of_getElem? (i := 901) (by decide +kernel), List.mem_of_getElem? (i := 902) (by decide +kernel)⟩
theorem lw_p55 : lw_okq (⟨"EdgeJoinModel", "isUsed", "(II)Z"⟩, 17) := ⟨⟨by decide +kernel, by decide +kernel⟩, List.mem_of_getElem? (i := 651) (by decide +kernel), List.mem_of_getElem? (i := 905) (by decide +kernel), List.mem_of_getElem? (i := 906) (by decide +kernel)⟩
theorem lw_p56 : lw_okq (⟨"EdgeJoinModel", "isFramed", "(IIII)Z"⟩, 17) := ⟨⟨by decide +kernel, by decide +kernel⟩, List.mem_of_getElem? (i := 651) (by decide +kernel), List.mem_of_getElem? (i := 909) (by decide +kernel), List.mem_of_getElem? (i := 910) (by decide +kernel)⟩
theorem lw_p57 : lw_okq (⟨"EdgeJoinModel", "added", "(III)I"⟩, 17) := ⟨⟨by decide +kernel, by decide +kernel⟩, List.mem_of_getElem? (i := 651) (by decide +kernel), List.mem_of_getElem? (i := 916) (by decide +kernel), List.mem_of_getElem? (i := 917) (by decide +kernel)⟩
theorem lw_p58 : lw_okq (⟨"EdgeJoinModel", "between", "(III)I"⟩, 17) := ⟨⟨by decide +kernel, by decide +kernel⟩, List.mem_of_getElem? (i := 651) (by decide +kernel), List.mem_of_getElem? (i := 920) (by decide +kernel), List.mem_of_getElem? (i := 921) (by decide +kernel)⟩
theorem lw_p59 : lw_okq (⟨"EdgeJoinModel", "tableNow", "(II)I"⟩, 17) := ⟨⟨by decide +kernel, by decide +kernel⟩, List.mem_of_getElem? (i := 651) (by decide +kernel), List.mem_of_getElem? (i := 931) (by decide +kernel), List.mem_of_getElem? (i := 932) (by decide +kernel)⟩
theorem lw_p60 : lw_okq (⟨"EdgeJoinModel", "lying", "()I"⟩, 17) := ⟨⟨by decide +kernel, by decide +kernel⟩, List.mem_of_getElem? (i := 651) (by decide +kernel), List.mem_of_getElem? (i := 935) (by decide +kernel), List.mem_of_getElem? (i := 936) (by decide +kernel)⟩
theorem lw_p61 : lw_okq (⟨"EdgeJoinModel", "canPut", "(III)I"⟩, 17) := ⟨⟨by decide +kernel, by decide +kernel⟩, List.mem_of_getElem? (i := 651) (by decide +kernel), List.mem_of_getElem? (i := 943) (by decide +kernel), List.mem_of_getElem? (i := 944) (by decide +kernel)⟩
theorem lw_p62 : lw_okq (⟨"EdgeJoinModel", "isPlace", "(I)Z"⟩, 17) := ⟨⟨by decide +kernel, by decide +kernel⟩, List.mem_of_getElem? (i := 651) (by decide +kernel), List.mem_of_getElem? (i := 947) (by decide +kernel), List.mem_of_getElem? (i := 948) (by decide +kernel)⟩
theorem lw_p63 : lw_okq (⟨"EdgeJoinModel", "putNow", "(III)I"⟩, 17) := ⟨⟨by decide +kernel, by decide +kernel⟩, List.mem_of_getElem? (i := 651) (by decide +kernel), List.mem_of_getElem? (i := 951) (by decide +kernel), List.mem_of_getElem? (i := 952) (by decide +kernel)⟩
def lw_privs_4 : List (MethodName × Nat) := [(⟨"EdgeJoinModel", "places", "()I"⟩, 17), (⟨"EdgeJoinModel", "wide", "()I"⟩, 17), (⟨"EdgeJoinModel", "high", "()I"⟩, 17), (⟨"EdgeJoinModel", "pairsOf", "(I)I"⟩, 17), (⟨"EdgeJoinModel", "edgesOf", "(I)I"⟩, 17), (⟨"EdgeJoinModel", "toldEdge", "(II)I"⟩, 17), (⟨"EdgeJoinModel", "findsJoin", "(IIII)Z"⟩, 17), (⟨"EdgeJoinModel", "isUsed", "(II)Z"⟩, 17), (⟨"EdgeJoinModel", "isFramed", "(IIII)Z"⟩, 17), (⟨"EdgeJoinModel", "added", "(III)I"⟩, 17), (⟨"EdgeJoinModel", "between", "(III)I"⟩, 17), (⟨"EdgeJoinModel", "tableNow", "(II)I"⟩, 17), (⟨"EdgeJoinModel", "lying", "()I"⟩, 17), (⟨"EdgeJoinModel", "canPut", "(III)I"⟩, 17), (⟨"EdgeJoinModel", "isPlace", "(I)Z"⟩, 17), (⟨"EdgeJoinModel", "putNow", "(III)I"⟩, 17)]
theorem lw_r4 : ∀ q ∈ lw_privs_4, lw_okq q := List.forall_mem_cons.mpr ⟨lw_p48, List.forall_mem_cons.mpr ⟨lw_p49, List.forall_mem_cons.mpr ⟨lw_p50, List.forall_mem_cons.mpr ⟨lw_p51, List.forall_mem_cons.mpr ⟨lw_p52, List.forall_mem_cons.mpr ⟨lw_p53, List.forall_mem_cons.mpr ⟨lw_p54, List.forall_mem_cons.mpr ⟨lw_p55, List.forall_mem_cons.mpr ⟨lw_p56, List.forall_mem_cons.mpr ⟨lw_p57, List.forall_mem_cons.mpr ⟨lw_p58, List.forall_mem_cons.mpr ⟨lw_p59, List.forall_mem_cons.mpr ⟨lw_p60, List.forall_mem_cons.mpr ⟨lw_p61, List.forall_mem_cons.mpr ⟨lw_p62, List.forall_mem_cons.mpr ⟨lw_p63, fun _ h => absurd h List.not_mem_nil⟩⟩⟩⟩⟩⟩⟩⟩⟩⟩⟩⟩⟩⟩⟩⟩
theorem lw_p64 : lw_okq (⟨"EdgeJoinModel", "gain", "(II)I"⟩, 17) := ⟨⟨by decide +kernel, by decide +kernel⟩, List.mem_of_getElem? (i := 651) (by decide +kernel), List.mem_of_getElem? (i := 955) (by decide +kernel), List.mem_of_getElem? (i := 956) (by decide +kernel)⟩
theorem lw_p65 : lw_okq (⟨"EdgeJoinModel", "beside", "(II)I"⟩, 17) := ⟨⟨by decide +kernel, by decide +kernel⟩, List.mem_of_getElem? (i := 651) (by decide +kernel), List.mem_of_getElem? (i := 959) (by decide +kernel), List.mem_of_getElem? (i := 960) (by decide +kernel)⟩
theorem lw_p66 : lw_okq (⟨"EdgeJoinModel", "canTake", "(I)I"⟩, 17) := ⟨⟨by decide +kernel, by decide +kernel⟩, List.mem_of_getElem? (i := 651) (by decide +kernel), List.mem_of_getElem? (i := 967) (by decide +kernel), List.mem_of_getElem? (i := 968) (by decide +kernel)⟩
theorem lw_p67 : lw_okq (⟨"EdgeJoinModel", "takeNow", "(I)I"⟩, 17) := ⟨⟨by decide +kernel, by decide +kernel⟩, List.mem_of_getElem? (i := 651) (by decide +kernel), List.mem_of_getElem? (i := 971) (by decide +kernel), List.mem_of_getElem? (i := 972) (by decide +kernel)⟩
theorem lw_p68 : lw_okq (⟨"EdgeJoinModel", "costNow", "()I"⟩, 17) := ⟨⟨by decide +kernel, by decide +kernel⟩, List.mem_of_getElem? (i := 651) (by decide +kernel), List.mem_of_getElem? (i := 983) (by decide +kernel), List.mem_of_getElem? (i := 984) (by decide +kernel)⟩
theorem lw_p69 : lw_okq (⟨"EdgeJoinModel", "nextOf", "(II)I"⟩, 17) := ⟨⟨by decide +kernel, by decide +kernel⟩, List.mem_of_getElem? (i := 651) (by decide +kernel), List.mem_of_getElem? (i := 992) (by decide +kernel), List.mem_of_getElem? (i := 993) (by decide +kernel)⟩
theorem lw_p70 : lw_okq (⟨"EdgeJoinModel", "isOpen", "(I)Z"⟩, 17) := ⟨⟨by decide +kernel, by decide +kernel⟩, List.mem_of_getElem? (i := 651) (by decide +kernel), List.mem_of_getElem? (i := 996) (by decide +kernel), List.mem_of_getElem? (i := 997) (by decide +kernel)⟩
theorem lw_p71 : lw_okq (⟨"EdgeJoinModel", "readsOrder", "(Z)Z"⟩, 17) := ⟨⟨by decide +kernel, by decide +kernel⟩, List.mem_of_getElem? (i := 651) (by decide +kernel), List.mem_of_getElem? (i := 1013) (by decide +kernel), List.mem_of_getElem? (i := 1014) (by decide +kernel)⟩
theorem lw_p72 : lw_okq (⟨"EdgeJoinModel", "here", "()I"⟩, 17) := ⟨⟨by decide +kernel, by decide +kernel⟩, List.mem_of_getElem? (i := 651) (by decide +kernel), List.mem_of_getElem? (i := 1017) (by decide +kernel), List.mem_of_getElem? (i := 1018) (by decide +kernel)⟩
theorem lw_p73 : lw_okq (⟨"EdgeJoinModel", "takesCells", "()Z"⟩, 17) := ⟨⟨by decide +kernel, by decide +kernel⟩, List.mem_of_getElem? (i := 651) (by decide +kernel), List.mem_of_getElem? (i := 1024) (by decide +kernel), List.mem_of_getElem? (i := 1025) (by decide +kernel)⟩
theorem lw_p74 : lw_okq (⟨"EdgeJoinModel", "takesNumber", "(I)Z"⟩, 17) := ⟨⟨by decide +kernel, by decide +kernel⟩, List.mem_of_getElem? (i := 651) (by decide +kernel), List.mem_of_getElem? (i := 1030) (by decide +kernel), List.mem_of_getElem? (i := 1031) (by decide +kernel)⟩
theorem lw_p75 : lw_okq (⟨"EdgeJoinModel", "isFigure", "()Z"⟩, 17) := ⟨⟨by decide +kernel, by decide +kernel⟩, List.mem_of_getElem? (i := 651) (by decide +kernel), List.mem_of_getElem? (i := 1034) (by decide +kernel), List.mem_of_getElem? (i := 1035) (by decide +kernel)⟩
theorem lw_p76 : lw_okq (⟨"EdgeJoinModel", "can", "(I)I"⟩, 17) := ⟨⟨by decide +kernel, by decide +kernel⟩, List.mem_of_getElem? (i := 651) (by decide +kernel), List.mem_of_getElem? (i := 1039) (by decide +kernel), List.mem_of_getElem? (i := 1040) (by decide +kernel)⟩
theorem lw_p77 : lw_okq (⟨"EdgeJoinModel", "does", "(I)V"⟩, 17) := ⟨⟨by decide +kernel, by decide +kernel⟩, List.mem_of_getElem? (i := 651) (by decide +kernel), List.mem_of_getElem? (i := 1043) (by decide +kernel), List.mem_of_getElem? (i := 1044) (by decide +kernel)⟩
theorem lw_p78 : lw_okq (⟨"EdgeJoinModel", "swaps", "()V"⟩, 17) := ⟨⟨by decide +kernel, by decide +kernel⟩, List.mem_of_getElem? (i := 651) (by decide +kernel), List.mem_of_getElem? (i := 1047) (by decide +kernel), List.mem_of_getElem? (i := 1048) (by decide +kernel)⟩
theorem lw_p79 : lw_okq (⟨"EdgeJoinModel", "toldOf", "(I)I"⟩, 17) := ⟨⟨by decide +kernel, by decide +kernel⟩, List.mem_of_getElem? (i := 651) (by decide +kernel), List.mem_of_getElem? (i := 1060) (by decide +kernel), List.mem_of_getElem? (i := 1061) (by decide +kernel)⟩
def lw_privs_5 : List (MethodName × Nat) := [(⟨"EdgeJoinModel", "gain", "(II)I"⟩, 17), (⟨"EdgeJoinModel", "beside", "(II)I"⟩, 17), (⟨"EdgeJoinModel", "canTake", "(I)I"⟩, 17), (⟨"EdgeJoinModel", "takeNow", "(I)I"⟩, 17), (⟨"EdgeJoinModel", "costNow", "()I"⟩, 17), (⟨"EdgeJoinModel", "nextOf", "(II)I"⟩, 17), (⟨"EdgeJoinModel", "isOpen", "(I)Z"⟩, 17), (⟨"EdgeJoinModel", "readsOrder", "(Z)Z"⟩, 17), (⟨"EdgeJoinModel", "here", "()I"⟩, 17), (⟨"EdgeJoinModel", "takesCells", "()Z"⟩, 17), (⟨"EdgeJoinModel", "takesNumber", "(I)Z"⟩, 17), (⟨"EdgeJoinModel", "isFigure", "()Z"⟩, 17), (⟨"EdgeJoinModel", "can", "(I)I"⟩, 17), (⟨"EdgeJoinModel", "does", "(I)V"⟩, 17), (⟨"EdgeJoinModel", "swaps", "()V"⟩, 17), (⟨"EdgeJoinModel", "toldOf", "(I)I"⟩, 17)]
theorem lw_r5 : ∀ q ∈ lw_privs_5, lw_okq q := List.forall_mem_cons.mpr ⟨lw_p64, List.forall_mem_cons.mpr ⟨lw_p65, List.forall_mem_cons.mpr ⟨lw_p66, List.forall_mem_cons.mpr ⟨lw_p67, List.forall_mem_cons.mpr ⟨lw_p68, List.forall_mem_cons.mpr ⟨lw_p69, List.forall_mem_cons.mpr ⟨lw_p70, List.forall_mem_cons.mpr ⟨lw_p71, List.forall_mem_cons.mpr ⟨lw_p72, List.forall_mem_cons.mpr ⟨lw_p73, List.forall_mem_cons.mpr ⟨lw_p74, List.forall_mem_cons.mpr ⟨lw_p75, List.forall_mem_cons.mpr ⟨lw_p76, List.forall_mem_cons.mpr ⟨lw_p77, List.forall_mem_cons.mpr ⟨lw_p78, List.forall_mem_cons.mpr ⟨lw_p79, fun _ h => absurd h List.not_mem_nil⟩⟩⟩⟩⟩⟩⟩⟩⟩⟩⟩⟩⟩⟩⟩⟩
def lw_privs : List (MethodName × Nat) := lw_privs_1 ++ (lw_privs_2 ++ (lw_privs_3 ++ (lw_privs_4 ++ (lw_privs_5))))
def lw_tbl : List Cond := k2_sels lw_privs ++ tables_1
theorem lw_privs_ok : ∀ q ∈ lw_privs, lw_okq q := by
  show ∀ q ∈ lw_privs_1 ++ (lw_privs_2 ++ (lw_privs_3 ++ (lw_privs_4 ++ (lw_privs_5)))), lw_okq q
  exact List.forall_mem_append.mpr ⟨lw_r1, List.forall_mem_append.mpr ⟨lw_r2, List.forall_mem_append.mpr ⟨lw_r3, List.forall_mem_append.mpr ⟨lw_r4, lw_r5⟩⟩⟩⟩
-- ===== end of PART A =====
def RX0 : String := "EdgeJoin$Arranger"
def TX0 : u_T := fun k => match k with
  | 0 => ("EdgeJoin$Arranger", "turnCount", "I", false)
  | 1 => ("EdgeJoin$Arranger", "framed", "Z", false)
  | 2 => ("EdgeJoin$Arranger", "used", "[Z", true)
  | 3 => ("EdgeJoin$Arranger", "trial", "LEdgeJoin$Rectangle;", true)
  | 4 => ("EdgeJoin$Arranger", "best", "LEdgeJoin$Rectangle;", true)
  | _ => ("EdgeJoin$Arranger", "bestCost", "I", false)
def tyX0 : Nat → FieldType := fun k => match k with
  | 0 => .int
  | 1 => .boolean
  | 2 => .array .boolean
  | 3 => .object "EdgeJoin$Rectangle"
  | 4 => .object "EdgeJoin$Rectangle"
  | _ => .int
abbrev wsX00 : List Cond := u_ws RX0 TX0 6
theorem nmX0 : ∀ a, a < 6 → ∀ b, b < 6 → a ≠ b → (TX0 a).2.1 ≠ (TX0 b).2.1 := by decide +kernel
theorem tyX0_ok : ∀ k, k < 6 → parseFieldDescriptor (TX0 k).2.2.1 = some (tyX0 k) := by decide +kernel
def RX1 : String := "EdgeJoin$History"
def TX1 : u_T := fun k => match k with
  | 0 => ("EdgeJoin$History", "kept", "[LEdgeJoin$State;", true)
  | 1 => ("EdgeJoin$History", "oldest", "I", false)
  | _ => ("EdgeJoin$History", "size", "I", false)
def tyX1 : Nat → FieldType := fun k => match k with
  | 0 => .array (.object "EdgeJoin$State")
  | 1 => .int
  | _ => .int
abbrev wsX10 : List Cond := u_ws RX1 TX1 3
theorem nmX1 : ∀ a, a < 3 → ∀ b, b < 3 → a ≠ b → (TX1 a).2.1 ≠ (TX1 b).2.1 := by decide +kernel
theorem tyX1_ok : ∀ k, k < 3 → parseFieldDescriptor (TX1 k).2.2.1 = some (tyX1 k) := by decide +kernel
def RX2 : String := "EdgeJoin$Maker"
def TX2 : u_T := fun k => match k with
  | 0 => ("EdgeJoin$Maker", "number", "J", false)
  | _ => ("EdgeJoin$Maker", "points", "[I", true)
def tyX2 : Nat → FieldType := fun k => match k with
  | 0 => .long
  | _ => .array .int
abbrev wsX20 : List Cond := u_ws RX2 TX2 2
theorem nmX2 : ∀ a, a < 2 → ∀ b, b < 2 → a ≠ b → (TX2 a).2.1 ≠ (TX2 b).2.1 := by decide +kernel
theorem tyX2_ok : ∀ k, k < 2 → parseFieldDescriptor (TX2 k).2.2.1 = some (tyX2 k) := by decide +kernel
def RX3 : String := "EdgeJoin$Rectangle"
def TX3 : u_T := fun k => match k with
  | 0 => ("EdgeJoin$Rectangle", "w", "I", false)
  | 1 => ("EdgeJoin$Rectangle", "h", "I", false)
  | _ => ("EdgeJoin$Rectangle", "contents", "[I", true)
def tyX3 : Nat → FieldType := fun k => match k with
  | 0 => .int
  | 1 => .int
  | _ => .array .int
abbrev wsX30 : List Cond := u_ws RX3 TX3 3
theorem nmX3 : ∀ a, a < 3 → ∀ b, b < 3 → a ≠ b → (TX3 a).2.1 ≠ (TX3 b).2.1 := by decide +kernel
theorem tyX3_ok : ∀ k, k < 3 → parseFieldDescriptor (TX3 k).2.2.1 = some (tyX3 k) := by decide +kernel
def RX4 : String := "EdgeJoin$Sides"
def TX4 : u_T := fun k => match k with
  | 0 => ("EdgeJoin$Sides", "count", "I", false)
  | 1 => ("EdgeJoin$Sides", "cells", "[I", true)
  | 2 => ("EdgeJoin$Sides", "colorsOf", "[I", true)
  | 3 => ("EdgeJoin$Sides", "differences", "[[I", true)
  | 4 => ("EdgeJoin$Sides", "mateOf", "[I", true)
  | _ => ("EdgeJoin$Sides", "groupOf", "[I", true)
def tyX4 : Nat → FieldType := fun k => match k with
  | 0 => .int
  | 1 => .array .int
  | 2 => .array .int
  | 3 => .array (.array .int)
  | 4 => .array .int
  | _ => .array .int
abbrev wsX40 : List Cond := u_ws RX4 TX4 6
theorem nmX4 : ∀ a, a < 6 → ∀ b, b < 6 → a ≠ b → (TX4 a).2.1 ≠ (TX4 b).2.1 := by decide +kernel
theorem tyX4_ok : ∀ k, k < 6 → parseFieldDescriptor (TX4 k).2.2.1 = some (tyX4 k) := by decide +kernel
def RX5 : String := "EdgeJoin$State"
def TX5 : u_T := fun k => match k with
  | 0 => ("EdgeJoin$State", "count", "I", false)
  | 1 => ("EdgeJoin$State", "cells", "[I", true)
  | _ => ("EdgeJoin$State", "table", "LEdgeJoin$Rectangle;", true)
def tyX5 : Nat → FieldType := fun k => match k with
  | 0 => .int
  | 1 => .array .int
  | _ => .object "EdgeJoin$Rectangle"
abbrev wsX50 : List Cond := u_ws RX5 TX5 3
theorem nmX5 : ∀ a, a < 3 → ∀ b, b < 3 → a ≠ b → (TX5 a).2.1 ≠ (TX5 b).2.1 := by decide +kernel
theorem tyX5_ok : ∀ k, k < 3 → parseFieldDescriptor (TX5 k).2.2.1 = some (tyX5 k) := by decide +kernel
def RX6 : String := "EdgeJoin$Text"
def TX6 : u_T := fun k => match k with
  | 0 => ("EdgeJoin$Text", "bytes", "[B", true)
  | 1 => ("EdgeJoin$Text", "length", "I", false)
  | 2 => ("EdgeJoin$Text", "position", "I", false)
  | 3 => ("EdgeJoin$Text", "orderCount", "I", false)
  | 4 => ("EdgeJoin$Text", "letters", "[I", true)
  | _ => ("EdgeJoin$Text", "numbers", "[[I", true)
def tyX6 : Nat → FieldType := fun k => match k with
  | 0 => .array .byte
  | 1 => .int
  | 2 => .int
  | 3 => .int
  | 4 => .array .int
  | _ => .array (.array .int)
abbrev wsX60 : List Cond := u_ws RX6 TX6 6
theorem nmX6 : ∀ a, a < 6 → ∀ b, b < 6 → a ≠ b → (TX6 a).2.1 ≠ (TX6 b).2.1 := by decide +kernel
theorem tyX6_ok : ∀ k, k < 6 → parseFieldDescriptor (TX6 k).2.2.1 = some (tyX6 k) := by decide +kernel
def RX7 : String := "EdgeJoin"
def TX7 : u_T := fun k => match k with
  | 0 => ("EdgeJoin", "now", "LEdgeJoin$State;", true)
  | 1 => ("EdgeJoin", "before", "LEdgeJoin$State;", true)
  | 2 => ("EdgeJoin", "history", "LEdgeJoin$History;", true)
  | 3 => ("EdgeJoin", "sides", "LEdgeJoin$Sides;", true)
  | 4 => ("EdgeJoin", "arranger", "LEdgeJoin$Arranger;", true)
  | 5 => ("EdgeJoin", "maker", "LEdgeJoin$Maker;", true)
  | 6 => ("EdgeJoin", "text", "LEdgeJoin$Text;", true)
  | 7 => ("EdgeJoin", "badCount", "I", false)
  | 8 => ("EdgeJoin", "noCount", "I", false)
  | _ => ("EdgeJoin", "fullCount", "I", false)
def tyX7 : Nat → FieldType := fun k => match k with
  | 0 => .object "EdgeJoin$State"
  | 1 => .object "EdgeJoin$State"
  | 2 => .object "EdgeJoin$History"
  | 3 => .object "EdgeJoin$Sides"
  | 4 => .object "EdgeJoin$Arranger"
  | 5 => .object "EdgeJoin$Maker"
  | 6 => .object "EdgeJoin$Text"
  | 7 => .int
  | 8 => .int
  | _ => .int
abbrev wsX70 : List Cond := u_ws RX7 TX7 10
theorem nmX7 : ∀ a, a < 10 → ∀ b, b < 10 → a ≠ b → (TX7 a).2.1 ≠ (TX7 b).2.1 := by decide +kernel
theorem tyX7_ok : ∀ k, k < 10 → parseFieldDescriptor (TX7 k).2.2.1 = some (tyX7 k) := by decide +kernel
def RX8 : String := "EdgeJoinModel"
def TX8 : u_T := fun k => match k with
  | 0 => ("EdgeJoinModel", "all", "[I", true)
  | 1 => ("EdgeJoinModel", "past", "[I", true)
  | 2 => ("EdgeJoinModel", "states", "I", false)
  | 3 => ("EdgeJoinModel", "refused", "[I", true)
  | 4 => ("EdgeJoinModel", "net", "[I", true)
  | 5 => ("EdgeJoinModel", "mates", "[I", true)
  | 6 => ("EdgeJoinModel", "grouped", "[I", true)
  | 7 => ("EdgeJoinModel", "row", "[I", true)
  | 8 => ("EdgeJoinModel", "best", "[I", true)
  | 9 => ("EdgeJoinModel", "bestCost", "I", false)
  | 10 => ("EdgeJoinModel", "costs", "[I", true)
  | 11 => ("EdgeJoinModel", "text", "[I", true)
  | 12 => ("EdgeJoinModel", "textLong", "I", false)
  | 13 => ("EdgeJoinModel", "spot", "I", false)
  | 14 => ("EdgeJoinModel", "numbers", "[I", true)
  | 15 => ("EdgeJoinModel", "stopped", "Z", false)
  | _ => ("EdgeJoinModel", "before", "[I", true)
def tyX8 : Nat → FieldType := fun k => match k with
  | 0 => .array .int
  | 1 => .array .int
  | 2 => .int
  | 3 => .array .int
  | 4 => .array .int
  | 5 => .array .int
  | 6 => .array .int
  | 7 => .array .int
  | 8 => .array .int
  | 9 => .int
  | 10 => .array .int
  | 11 => .array .int
  | 12 => .int
  | 13 => .int
  | 14 => .array .int
  | 15 => .boolean
  | _ => .array .int
abbrev wsX80 : List Cond := u_ws RX8 TX8 17
theorem nmX8 : ∀ a, a < 17 → ∀ b, b < 17 → a ≠ b → (TX8 a).2.1 ≠ (TX8 b).2.1 := by decide +kernel
theorem tyX8_ok : ∀ k, k < 17 → parseFieldDescriptor (TX8 k).2.2.1 = some (tyX8 k) := by decide +kernel
abbrev cX0_init : ByteArray := prog_2_method_1_code
abbrev cX0_findBest : ByteArray := prog_2_method_2_code
abbrev cX0_fillFrom : ByteArray := prog_2_method_3_code
abbrev cX0_fitsFrame : ByteArray := prog_2_method_4_code
abbrev cX1_init : ByteArray := prog_3_method_1_code
abbrev cX1_keep : ByteArray := prog_3_method_2_code
abbrev cX1_restore : ByteArray := prog_3_method_3_code
abbrev cX2_init : ByteArray := prog_4_method_1_code
abbrev cX2_makePieces : ByteArray := prog_4_method_2_code
abbrev cX2_drawNumber : ByteArray := prog_4_method_3_code
abbrev cX2_paintPoints : ByteArray := prog_4_method_4_code
abbrev cX2_cutPiece : ByteArray := prog_4_method_5_code
abbrev cX2_mixPieces : ByteArray := prog_4_method_6_code
abbrev cX2_turnPieces : ByteArray := prog_4_method_7_code
abbrev cX3_init : ByteArray := prog_5_method_1_code
abbrev cX3_empty : ByteArray := prog_5_method_2_code
abbrev cX3_reset : ByteArray := prog_5_method_3_code
abbrev cX3_copyFrom : ByteArray := prog_5_method_4_code
abbrev cX3_size : ByteArray := prog_5_method_5_code
abbrev cX3_hasPlace : ByteArray := prog_5_method_6_code
abbrev cX3_neighborOf : ByteArray := prog_5_method_7_code
abbrev cX3_placeOf : ByteArray := prog_5_method_8_code
abbrev cX3_turnOf : ByteArray := prog_5_method_9_code
abbrev cX3_countPieces : ByteArray := prog_5_method_10_code
abbrev cX3_canGrowAt : ByteArray := prog_5_method_11_code
abbrev cX3_removePiece : ByteArray := prog_5_method_12_code
abbrev cX4_init : ByteArray := prog_6_method_1_code
abbrev cX4_follow : ByteArray := prog_6_method_2_code
abbrev cX4_isUpToDate : ByteArray := prog_6_method_3_code
abbrev cX4_readColors : ByteArray := prog_6_method_4_code
abbrev cX4_compareSides : ByteArray := prog_6_method_5_code
abbrev cX4_differenceOf : ByteArray := prog_6_method_6_code
abbrev cX4_findMate : ByteArray := prog_6_method_7_code
abbrev cX4_joinGroups : ByteArray := prog_6_method_8_code
abbrev cX4_mergeGroups : ByteArray := prog_6_method_9_code
abbrev cX4_isFlat : ByteArray := prog_6_method_10_code
abbrev cX4_flatMask : ByteArray := prog_6_method_11_code
abbrev cX4_sortOf : ByteArray := prog_6_method_12_code
abbrev cX4_isLowerOfPair : ByteArray := prog_6_method_13_code
abbrev cX4_countPairs : ByteArray := prog_6_method_14_code
abbrev cX4_findPair : ByteArray := prog_6_method_15_code
abbrev cX4_countGroups : ByteArray := prog_6_method_16_code
abbrev cX4_countEdges : ByteArray := prog_6_method_17_code
abbrev cX4_standsBefore : ByteArray := prog_6_method_18_code
abbrev cX4_reversedColors : ByteArray := prog_6_method_19_code
abbrev cX4_touchingDifference : ByteArray := prog_6_method_20_code
abbrev cX4_addedCost : ByteArray := prog_6_method_21_code
abbrev cX4_wholeCost : ByteArray := prog_6_method_22_code
abbrev cX5_init : ByteArray := prog_7_method_1_code
abbrev cX5_copyFrom : ByteArray := prog_7_method_2_code
abbrev cX5_hasPiece : ByteArray := prog_7_method_3_code
abbrev cX5_addPiece : ByteArray := prog_7_method_4_code
abbrev cX5_dropPiece : ByteArray := prog_7_method_5_code
abbrev cX5_layTable : ByteArray := prog_7_method_6_code
abbrev cX5_takeFromTable : ByteArray := prog_7_method_7_code
abbrev cX6_init : ByteArray := prog_8_method_1_code
abbrev cX6_append : ByteArray := prog_8_method_2_code
abbrev cX6_parseOrders : ByteArray := prog_8_method_3_code
abbrev cX6_parseOrder : ByteArray := prog_8_method_4_code
abbrev cX6_numbersAfter : ByteArray := prog_8_method_5_code
abbrev cX6_parseCells : ByteArray := prog_8_method_6_code
abbrev cX6_parseNumbers : ByteArray := prog_8_method_7_code
abbrev cX6_skipSpaces : ByteArray := prog_8_method_8_code
abbrev cX6_isDigitHere : ByteArray := prog_8_method_9_code
abbrev cX6_byteHere : ByteArray := prog_8_method_10_code
abbrev cX7_init : ByteArray := prog_1_method_1_code
abbrev cX7_piece : ByteArray := prog_1_method_2_code
abbrev cX7_turns : ByteArray := prog_1_method_3_code
abbrev cX7_drops : ByteArray := prog_1_method_4_code
abbrev cX7_makes : ByteArray := prog_1_method_5_code
abbrev cX7_cell : ByteArray := prog_1_method_6_code
abbrev cX7_of : ByteArray := prog_1_method_7_code
abbrev cX7_edge : ByteArray := prog_1_method_8_code
abbrev cX7_unlike : ByteArray := prog_1_method_9_code
abbrev cX7_mate : ByteArray := prog_1_method_10_code
abbrev cX7_pairs : ByteArray := prog_1_method_11_code
abbrev cX7_groups : ByteArray := prog_1_method_12_code
abbrev cX7_edges : ByteArray := prog_1_method_13_code
abbrev cX7_joins : ByteArray := prog_1_method_14_code
abbrev cX7_table : ByteArray := prog_1_method_15_code
abbrev cX7_puts : ByteArray := prog_1_method_16_code
abbrev cX7_takes : ByteArray := prog_1_method_17_code
abbrev cX7_at : ByteArray := prog_1_method_18_code
abbrev cX7_cost : ByteArray := prog_1_method_19_code
abbrev cX7_next : ByteArray := prog_1_method_20_code
abbrev cX7_type : ByteArray := prog_1_method_21_code
abbrev cX7_clear : ByteArray := prog_1_method_22_code
abbrev cX7_reads : ByteArray := prog_1_method_23_code
abbrev cX7_back : ByteArray := prog_1_method_24_code
abbrev cX7_told : ByteArray := prog_1_method_25_code
abbrev cX7_digest : ByteArray := prog_1_method_26_code
abbrev cX7_fail : ByteArray := prog_1_method_27_code
abbrev cX7_endChange : ByteArray := prog_1_method_28_code
abbrev cX7_freshSides : ByteArray := prog_1_method_29_code
abbrev cX7_putOnTable : ByteArray := prog_1_method_30_code
abbrev cX7_findContentFor : ByteArray := prog_1_method_31_code
abbrev cX7_obey : ByteArray := prog_1_method_32_code
abbrev cX7_isWithin : ByteArray := prog_1_method_33_code
abbrev cX7_isFlag : ByteArray := prog_1_method_34_code
abbrev cX7_isLength : ByteArray := prog_1_method_35_code
abbrev cX7_isTableSize : ByteArray := prog_1_method_36_code
abbrev cX7_colorIn : ByteArray := prog_1_method_37_code
abbrev cX7_turnedCells : ByteArray := prog_1_method_38_code
abbrev cX7_turnedOnce : ByteArray := prog_1_method_39_code
abbrev cX7_sideTowards : ByteArray := prog_1_method_40_code
abbrev cX8_init : ByteArray := prog_10_method_1_code
abbrev cX8_in : ByteArray := prog_10_method_3_code
abbrev cX8_refuses : ByteArray := prog_10_method_4_code
abbrev cX8_keep : ByteArray := prog_10_method_5_code
abbrev cX8_many : ByteArray := prog_10_method_6_code
abbrev cX8_bits : ByteArray := prog_10_method_7_code
abbrev cX8_wide : ByteArray := prog_10_method_8_code
abbrev cX8_high : ByteArray := prog_10_method_9_code
abbrev cX8_places : ByteArray := prog_10_method_10_code
abbrev cX8_lies : ByteArray := prog_10_method_11_code
abbrev cX8_isPiece : ByteArray := prog_10_method_12_code
abbrev cX8_isPlace : ByteArray := prog_10_method_13_code
abbrev cX8_laysTable : ByteArray := prog_10_method_14_code
abbrev cX8_colour : ByteArray := prog_10_method_15_code
abbrev cX8_quarter : ByteArray := prog_10_method_16_code
abbrev cX8_turned : ByteArray := prog_10_method_17_code
abbrev cX8_pieceNow : ByteArray := prog_10_method_18_code
abbrev cX8_piece : ByteArray := prog_10_method_19_code
abbrev cX8_turns : ByteArray := prog_10_method_20_code
abbrev cX8_drops : ByteArray := prog_10_method_21_code
abbrev cX8_nextDrawn : ByteArray := prog_10_method_22_code
abbrev cX8_canMake : ByteArray := prog_10_method_23_code
abbrev cX8_makeNow : ByteArray := prog_10_method_24_code
abbrev cX8_makes : ByteArray := prog_10_method_25_code
abbrev cX8_cell : ByteArray := prog_10_method_26_code
abbrev cX8_edgeColour : ByteArray := prog_10_method_27_code
abbrev cX8_edgeOf : ByteArray := prog_10_method_28_code
abbrev cX8_backwards : ByteArray := prog_10_method_29_code
abbrev cX8_isFlat : ByteArray := prog_10_method_30_code
abbrev cX8_flats : ByteArray := prog_10_method_31_code
abbrev cX8_sort : ByteArray := prog_10_method_32_code
abbrev cX8_unlikeOf : ByteArray := prog_10_method_33_code
abbrev cX8_mateOf : ByteArray := prog_10_method_34_code
abbrev cX8_laysMates : ByteArray := prog_10_method_35_code
abbrev cX8_isPair : ByteArray := prog_10_method_36_code
abbrev cX8_laysGroups : ByteArray := prog_10_method_37_code
abbrev cX8_placeOf : ByteArray := prog_10_method_38_code
abbrev cX8_ofPiece : ByteArray := prog_10_method_39_code
abbrev cX8_of : ByteArray := prog_10_method_40_code
abbrev cX8_isSide : ByteArray := prog_10_method_41_code
abbrev cX8_edge : ByteArray := prog_10_method_42_code
abbrev cX8_unlike : ByteArray := prog_10_method_43_code
abbrev cX8_mate : ByteArray := prog_10_method_44_code
abbrev cX8_pairsOf : ByteArray := prog_10_method_45_code
abbrev cX8_pairs : ByteArray := prog_10_method_46_code
abbrev cX8_groups : ByteArray := prog_10_method_47_code
abbrev cX8_toldEdge : ByteArray := prog_10_method_48_code
abbrev cX8_edgesOf : ByteArray := prog_10_method_49_code
abbrev cX8_edges : ByteArray := prog_10_method_50_code
abbrev cX8_sideOf : ByteArray := prog_10_method_51_code
abbrev cX8_between : ByteArray := prog_10_method_52_code
abbrev cX8_isFramed : ByteArray := prog_10_method_53_code
abbrev cX8_isUsed : ByteArray := prog_10_method_54_code
abbrev cX8_added : ByteArray := prog_10_method_55_code
abbrev cX8_findsJoin : ByteArray := prog_10_method_56_code
abbrev cX8_joins : ByteArray := prog_10_method_57_code
abbrev cX8_lying : ByteArray := prog_10_method_58_code
abbrev cX8_canTable : ByteArray := prog_10_method_59_code
abbrev cX8_tableNow : ByteArray := prog_10_method_60_code
abbrev cX8_table : ByteArray := prog_10_method_61_code
abbrev cX8_beside : ByteArray := prog_10_method_62_code
abbrev cX8_gain : ByteArray := prog_10_method_63_code
abbrev cX8_canPut : ByteArray := prog_10_method_64_code
abbrev cX8_putNow : ByteArray := prog_10_method_65_code
abbrev cX8_puts : ByteArray := prog_10_method_66_code
abbrev cX8_canTake : ByteArray := prog_10_method_67_code
abbrev cX8_takeNow : ByteArray := prog_10_method_68_code
abbrev cX8_takes : ByteArray := prog_10_method_69_code
abbrev cX8_at : ByteArray := prog_10_method_70_code
abbrev cX8_costNow : ByteArray := prog_10_method_71_code
abbrev cX8_cost : ByteArray := prog_10_method_72_code
abbrev cX8_isOpen : ByteArray := prog_10_method_73_code
abbrev cX8_nextOf : ByteArray := prog_10_method_74_code
abbrev cX8_next : ByteArray := prog_10_method_75_code
abbrev cX8_type : ByteArray := prog_10_method_76_code
abbrev cX8_clear : ByteArray := prog_10_method_77_code
abbrev cX8_here : ByteArray := prog_10_method_78_code
abbrev cX8_isFigure : ByteArray := prog_10_method_79_code
abbrev cX8_takesNumber : ByteArray := prog_10_method_80_code
abbrev cX8_takesCells : ByteArray := prog_10_method_81_code
abbrev cX8_numbersOf : ByteArray := prog_10_method_82_code
abbrev cX8_can : ByteArray := prog_10_method_83_code
abbrev cX8_does : ByteArray := prog_10_method_84_code
abbrev cX8_readsOrder : ByteArray := prog_10_method_85_code
abbrev cX8_swaps : ByteArray := prog_10_method_86_code
abbrev cX8_reads : ByteArray := prog_10_method_87_code
abbrev cX8_back : ByteArray := prog_10_method_88_code
abbrev cX8_toldOf : ByteArray := prog_10_method_89_code
abbrev cX8_told : ByteArray := prog_10_method_90_code
abbrev cX8_digest : ByteArray := prog_10_method_91_code
abbrev cL_law : ByteArray := code
def RL : String := "EdgeJoinLaw"
def yX0_init : MethodName := ⟨RX0, "<init>", "()V"⟩
def yX0_findBest : MethodName := ⟨RX0, "findBest", "(LEdgeJoin$Sides;IIZZ)Z"⟩
def yX0_fillFrom : MethodName := ⟨RX0, "fillFrom", "(LEdgeJoin$Arranger;LEdgeJoin$Sides;II)V"⟩
def yX0_fitsFrame : MethodName := ⟨RX0, "fitsFrame", "(LEdgeJoin$Sides;II)Z"⟩
def yX1_init : MethodName := ⟨RX1, "<init>", "()V"⟩
def yX1_keep : MethodName := ⟨RX1, "keep", "(LEdgeJoin$State;)V"⟩
def yX1_restore : MethodName := ⟨RX1, "restore", "(LEdgeJoin$State;)V"⟩
def yX2_init : MethodName := ⟨RX2, "<init>", "()V"⟩
def yX2_makePieces : MethodName := ⟨RX2, "makePieces", "(LEdgeJoin$State;IIII)I"⟩
def yX2_drawNumber : MethodName := ⟨RX2, "drawNumber", "()I"⟩
def yX2_paintPoints : MethodName := ⟨RX2, "paintPoints", "(II)V"⟩
def yX2_cutPiece : MethodName := ⟨RX2, "cutPiece", "(III)I"⟩
def yX2_mixPieces : MethodName := ⟨RX2, "mixPieces", "(LEdgeJoin$State;)V"⟩
def yX2_turnPieces : MethodName := ⟨RX2, "turnPieces", "(LEdgeJoin$State;)V"⟩
def yX3_init : MethodName := ⟨RX3, "<init>", "()V"⟩
def yX3_empty : MethodName := ⟨RX3, "empty", "()V"⟩
def yX3_reset : MethodName := ⟨RX3, "reset", "(II)V"⟩
def yX3_copyFrom : MethodName := ⟨RX3, "copyFrom", "(LEdgeJoin$Rectangle;)V"⟩
def yX3_size : MethodName := ⟨RX3, "size", "()I"⟩
def yX3_hasPlace : MethodName := ⟨RX3, "hasPlace", "(I)Z"⟩
def yX3_neighborOf : MethodName := ⟨RX3, "neighborOf", "(II)I"⟩
def yX3_placeOf : MethodName := ⟨RX3, "placeOf", "(I)I"⟩
def yX3_turnOf : MethodName := ⟨RX3, "turnOf", "(I)I"⟩
def yX3_countPieces : MethodName := ⟨RX3, "countPieces", "()I"⟩
def yX3_canGrowAt : MethodName := ⟨RX3, "canGrowAt", "(I)Z"⟩
def yX3_removePiece : MethodName := ⟨RX3, "removePiece", "(I)V"⟩
def yX4_init : MethodName := ⟨RX4, "<init>", "()V"⟩
def yX4_follow : MethodName := ⟨RX4, "follow", "(LEdgeJoin$State;)V"⟩
def yX4_isUpToDate : MethodName := ⟨RX4, "isUpToDate", "(LEdgeJoin$State;)Z"⟩
def yX4_readColors : MethodName := ⟨RX4, "readColors", "()V"⟩
def yX4_compareSides : MethodName := ⟨RX4, "compareSides", "()V"⟩
def yX4_differenceOf : MethodName := ⟨RX4, "differenceOf", "(II)I"⟩
def yX4_findMate : MethodName := ⟨RX4, "findMate", "(I)I"⟩
def yX4_joinGroups : MethodName := ⟨RX4, "joinGroups", "()V"⟩
def yX4_mergeGroups : MethodName := ⟨RX4, "mergeGroups", "(II)V"⟩
def yX4_isFlat : MethodName := ⟨RX4, "isFlat", "(I)Z"⟩
def yX4_flatMask : MethodName := ⟨RX4, "flatMask", "(I)I"⟩
def yX4_sortOf : MethodName := ⟨RX4, "sortOf", "(I)I"⟩
def yX4_isLowerOfPair : MethodName := ⟨RX4, "isLowerOfPair", "(I)Z"⟩
def yX4_countPairs : MethodName := ⟨RX4, "countPairs", "()I"⟩
def yX4_findPair : MethodName := ⟨RX4, "findPair", "(I)I"⟩
def yX4_countGroups : MethodName := ⟨RX4, "countGroups", "()I"⟩
def yX4_countEdges : MethodName := ⟨RX4, "countEdges", "(Z)I"⟩
def yX4_standsBefore : MethodName := ⟨RX4, "standsBefore", "(IZ)Z"⟩
def yX4_reversedColors : MethodName := ⟨RX4, "reversedColors", "(I)I"⟩
def yX4_touchingDifference : MethodName := ⟨RX4, "touchingDifference", "(III)I"⟩
def yX4_addedCost : MethodName := ⟨RX4, "addedCost", "(LEdgeJoin$Rectangle;II)I"⟩
def yX4_wholeCost : MethodName := ⟨RX4, "wholeCost", "(LEdgeJoin$Rectangle;)I"⟩
def yX5_init : MethodName := ⟨RX5, "<init>", "()V"⟩
def yX5_copyFrom : MethodName := ⟨RX5, "copyFrom", "(LEdgeJoin$State;)V"⟩
def yX5_hasPiece : MethodName := ⟨RX5, "hasPiece", "(I)Z"⟩
def yX5_addPiece : MethodName := ⟨RX5, "addPiece", "(I)I"⟩
def yX5_dropPiece : MethodName := ⟨RX5, "dropPiece", "(I)I"⟩
def yX5_layTable : MethodName := ⟨RX5, "layTable", "(II)I"⟩
def yX5_takeFromTable : MethodName := ⟨RX5, "takeFromTable", "(I)I"⟩
def yX6_init : MethodName := ⟨RX6, "<init>", "()V"⟩
def yX6_append : MethodName := ⟨RX6, "append", "(I)V"⟩
def yX6_parseOrders : MethodName := ⟨RX6, "parseOrders", "()I"⟩
def yX6_parseOrder : MethodName := ⟨RX6, "parseOrder", "(I)Z"⟩
def yX6_numbersAfter : MethodName := ⟨RX6, "numbersAfter", "(I)I"⟩
def yX6_parseCells : MethodName := ⟨RX6, "parseCells", "(I)Z"⟩
def yX6_parseNumbers : MethodName := ⟨RX6, "parseNumbers", "(II)Z"⟩
def yX6_skipSpaces : MethodName := ⟨RX6, "skipSpaces", "()V"⟩
def yX6_isDigitHere : MethodName := ⟨RX6, "isDigitHere", "()Z"⟩
def yX6_byteHere : MethodName := ⟨RX6, "byteHere", "()I"⟩
def yX7_init : MethodName := ⟨RX7, "<init>", "()V"⟩
def yX7_piece : MethodName := ⟨RX7, "piece", "(I)I"⟩
def yX7_turns : MethodName := ⟨RX7, "turns", "(II)I"⟩
def yX7_drops : MethodName := ⟨RX7, "drops", "(I)I"⟩
def yX7_makes : MethodName := ⟨RX7, "makes", "(IIII)I"⟩
def yX7_cell : MethodName := ⟨RX7, "cell", "(III)I"⟩
def yX7_of : MethodName := ⟨RX7, "of", "(II)I"⟩
def yX7_edge : MethodName := ⟨RX7, "edge", "(II)I"⟩
def yX7_unlike : MethodName := ⟨RX7, "unlike", "(IIII)I"⟩
def yX7_mate : MethodName := ⟨RX7, "mate", "(II)I"⟩
def yX7_pairs : MethodName := ⟨RX7, "pairs", "(I)I"⟩
def yX7_groups : MethodName := ⟨RX7, "groups", "()I"⟩
def yX7_edges : MethodName := ⟨RX7, "edges", "(I)I"⟩
def yX7_joins : MethodName := ⟨RX7, "joins", "(IIIII)I"⟩
def yX7_table : MethodName := ⟨RX7, "table", "(II)I"⟩
def yX7_puts : MethodName := ⟨RX7, "puts", "(III)I"⟩
def yX7_takes : MethodName := ⟨RX7, "takes", "(I)I"⟩
def yX7_at : MethodName := ⟨RX7, "at", "(I)I"⟩
def yX7_cost : MethodName := ⟨RX7, "cost", "()I"⟩
def yX7_next : MethodName := ⟨RX7, "next", "(II)I"⟩
def yX7_type : MethodName := ⟨RX7, "type", "(I)I"⟩
def yX7_clear : MethodName := ⟨RX7, "clear", "()I"⟩
def yX7_reads : MethodName := ⟨RX7, "reads", "()I"⟩
def yX7_back : MethodName := ⟨RX7, "back", "()I"⟩
def yX7_told : MethodName := ⟨RX7, "told", "(I)I"⟩
def yX7_digest : MethodName := ⟨RX7, "digest", "()J"⟩
def yX7_fail : MethodName := ⟨RX7, "fail", "(I)I"⟩
def yX7_endChange : MethodName := ⟨RX7, "endChange", "(I)I"⟩
def yX7_freshSides : MethodName := ⟨RX7, "freshSides", "()LEdgeJoin$Sides;"⟩
def yX7_putOnTable : MethodName := ⟨RX7, "putOnTable", "(III)I"⟩
def yX7_findContentFor : MethodName := ⟨RX7, "findContentFor", "(IZ)I"⟩
def yX7_obey : MethodName := ⟨RX7, "obey", "(I)I"⟩
def yX7_isWithin : MethodName := ⟨RX7, "isWithin", "(II)Z"⟩
def yX7_isFlag : MethodName := ⟨RX7, "isFlag", "(I)Z"⟩
def yX7_isLength : MethodName := ⟨RX7, "isLength", "(I)Z"⟩
def yX7_isTableSize : MethodName := ⟨RX7, "isTableSize", "(II)Z"⟩
def yX7_colorIn : MethodName := ⟨RX7, "colorIn", "(II)I"⟩
def yX7_turnedCells : MethodName := ⟨RX7, "turnedCells", "(II)I"⟩
def yX7_turnedOnce : MethodName := ⟨RX7, "turnedOnce", "(I)I"⟩
def yX7_sideTowards : MethodName := ⟨RX7, "sideTowards", "(II)I"⟩
def yX8_init : MethodName := ⟨RX8, "<init>", "()V"⟩
def yX8_in : MethodName := ⟨RX8, "in", "(JJJ)Z"⟩
def yX8_refuses : MethodName := ⟨RX8, "refuses", "(I)I"⟩
def yX8_keep : MethodName := ⟨RX8, "keep", "()V"⟩
def yX8_many : MethodName := ⟨RX8, "many", "()I"⟩
def yX8_bits : MethodName := ⟨RX8, "bits", "(I)I"⟩
def yX8_wide : MethodName := ⟨RX8, "wide", "()I"⟩
def yX8_high : MethodName := ⟨RX8, "high", "()I"⟩
def yX8_places : MethodName := ⟨RX8, "places", "()I"⟩
def yX8_lies : MethodName := ⟨RX8, "lies", "(I)I"⟩
def yX8_isPiece : MethodName := ⟨RX8, "isPiece", "(I)Z"⟩
def yX8_isPlace : MethodName := ⟨RX8, "isPlace", "(I)Z"⟩
def yX8_laysTable : MethodName := ⟨RX8, "laysTable", "(II)V"⟩
def yX8_colour : MethodName := ⟨RX8, "colour", "(III)I"⟩
def yX8_quarter : MethodName := ⟨RX8, "quarter", "(I)I"⟩
def yX8_turned : MethodName := ⟨RX8, "turned", "(II)I"⟩
def yX8_pieceNow : MethodName := ⟨RX8, "pieceNow", "(I)I"⟩
def yX8_piece : MethodName := ⟨RX8, "piece", "(I)I"⟩
def yX8_turns : MethodName := ⟨RX8, "turns", "(II)I"⟩
def yX8_drops : MethodName := ⟨RX8, "drops", "(I)I"⟩
def yX8_nextDrawn : MethodName := ⟨RX8, "nextDrawn", "(J)J"⟩
def yX8_canMake : MethodName := ⟨RX8, "canMake", "(IIII)I"⟩
def yX8_makeNow : MethodName := ⟨RX8, "makeNow", "(IIII)I"⟩
def yX8_makes : MethodName := ⟨RX8, "makes", "(IIII)I"⟩
def yX8_cell : MethodName := ⟨RX8, "cell", "(III)I"⟩
def yX8_edgeColour : MethodName := ⟨RX8, "edgeColour", "(III)I"⟩
def yX8_edgeOf : MethodName := ⟨RX8, "edgeOf", "(II)I"⟩
def yX8_backwards : MethodName := ⟨RX8, "backwards", "(I)I"⟩
def yX8_isFlat : MethodName := ⟨RX8, "isFlat", "(II)Z"⟩
def yX8_flats : MethodName := ⟨RX8, "flats", "(I)I"⟩
def yX8_sort : MethodName := ⟨RX8, "sort", "(I)I"⟩
def yX8_unlikeOf : MethodName := ⟨RX8, "unlikeOf", "(IIII)I"⟩
def yX8_mateOf : MethodName := ⟨RX8, "mateOf", "(II)I"⟩
def yX8_laysMates : MethodName := ⟨RX8, "laysMates", "()V"⟩
def yX8_isPair : MethodName := ⟨RX8, "isPair", "(I)Z"⟩
def yX8_laysGroups : MethodName := ⟨RX8, "laysGroups", "()V"⟩
def yX8_placeOf : MethodName := ⟨RX8, "placeOf", "(I)I"⟩
def yX8_ofPiece : MethodName := ⟨RX8, "ofPiece", "(II)I"⟩
def yX8_of : MethodName := ⟨RX8, "of", "(II)I"⟩
def yX8_isSide : MethodName := ⟨RX8, "isSide", "(I)Z"⟩
def yX8_edge : MethodName := ⟨RX8, "edge", "(II)I"⟩
def yX8_unlike : MethodName := ⟨RX8, "unlike", "(IIII)I"⟩
def yX8_mate : MethodName := ⟨RX8, "mate", "(II)I"⟩
def yX8_pairsOf : MethodName := ⟨RX8, "pairsOf", "(I)I"⟩
def yX8_pairs : MethodName := ⟨RX8, "pairs", "(I)I"⟩
def yX8_groups : MethodName := ⟨RX8, "groups", "()I"⟩
def yX8_toldEdge : MethodName := ⟨RX8, "toldEdge", "(II)I"⟩
def yX8_edgesOf : MethodName := ⟨RX8, "edgesOf", "(I)I"⟩
def yX8_edges : MethodName := ⟨RX8, "edges", "(I)I"⟩
def yX8_sideOf : MethodName := ⟨RX8, "sideOf", "(II)I"⟩
def yX8_between : MethodName := ⟨RX8, "between", "(III)I"⟩
def yX8_isFramed : MethodName := ⟨RX8, "isFramed", "(IIII)Z"⟩
def yX8_isUsed : MethodName := ⟨RX8, "isUsed", "(II)Z"⟩
def yX8_added : MethodName := ⟨RX8, "added", "(III)I"⟩
def yX8_findsJoin : MethodName := ⟨RX8, "findsJoin", "(IIII)Z"⟩
def yX8_joins : MethodName := ⟨RX8, "joins", "(IIIII)I"⟩
def yX8_lying : MethodName := ⟨RX8, "lying", "()I"⟩
def yX8_canTable : MethodName := ⟨RX8, "canTable", "(II)I"⟩
def yX8_tableNow : MethodName := ⟨RX8, "tableNow", "(II)I"⟩
def yX8_table : MethodName := ⟨RX8, "table", "(II)I"⟩
def yX8_beside : MethodName := ⟨RX8, "beside", "(II)I"⟩
def yX8_gain : MethodName := ⟨RX8, "gain", "(II)I"⟩
def yX8_canPut : MethodName := ⟨RX8, "canPut", "(III)I"⟩
def yX8_putNow : MethodName := ⟨RX8, "putNow", "(III)I"⟩
def yX8_puts : MethodName := ⟨RX8, "puts", "(III)I"⟩
def yX8_canTake : MethodName := ⟨RX8, "canTake", "(I)I"⟩
def yX8_takeNow : MethodName := ⟨RX8, "takeNow", "(I)I"⟩
def yX8_takes : MethodName := ⟨RX8, "takes", "(I)I"⟩
def yX8_at : MethodName := ⟨RX8, "at", "(I)I"⟩
def yX8_costNow : MethodName := ⟨RX8, "costNow", "()I"⟩
def yX8_cost : MethodName := ⟨RX8, "cost", "()I"⟩
def yX8_isOpen : MethodName := ⟨RX8, "isOpen", "(I)Z"⟩
def yX8_nextOf : MethodName := ⟨RX8, "nextOf", "(II)I"⟩
def yX8_next : MethodName := ⟨RX8, "next", "(II)I"⟩
def yX8_type : MethodName := ⟨RX8, "type", "(I)I"⟩
def yX8_clear : MethodName := ⟨RX8, "clear", "()I"⟩
def yX8_here : MethodName := ⟨RX8, "here", "()I"⟩
def yX8_isFigure : MethodName := ⟨RX8, "isFigure", "()Z"⟩
def yX8_takesNumber : MethodName := ⟨RX8, "takesNumber", "(I)Z"⟩
def yX8_takesCells : MethodName := ⟨RX8, "takesCells", "()Z"⟩
def yX8_numbersOf : MethodName := ⟨RX8, "numbersOf", "(I)I"⟩
def yX8_can : MethodName := ⟨RX8, "can", "(I)I"⟩
def yX8_does : MethodName := ⟨RX8, "does", "(I)V"⟩
def yX8_readsOrder : MethodName := ⟨RX8, "readsOrder", "(Z)Z"⟩
def yX8_swaps : MethodName := ⟨RX8, "swaps", "()V"⟩
def yX8_reads : MethodName := ⟨RX8, "reads", "()I"⟩
def yX8_back : MethodName := ⟨RX8, "back", "()I"⟩
def yX8_toldOf : MethodName := ⟨RX8, "toldOf", "(I)I"⟩
def yX8_told : MethodName := ⟨RX8, "told", "(I)I"⟩
def yX8_digest : MethodName := ⟨RX8, "digest", "()J"⟩
def yL_law : MethodName := ⟨RL, "law", "([I)Z"⟩
abbrev zCl : List vw_C := [(RX0, TX0, 6), (RX1, TX1, 3), (RX2, TX2, 2), (RX3, TX3, 3), (RX4, TX4, 6), (RX5, TX5, 3), (RX6, TX6, 6), (RX7, TX7, 10), (RX8, TX8, 17)]
