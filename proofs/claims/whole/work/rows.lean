section
-- ===== PART A: goes FIRST, ahead of the names: the tables' words, and 'selects' of the private methods out of them =====
/-- a private method of a class that the tables say can be made, by its rows of tables_1 -/
def lw_okq (q : MethodName × Nat) : Prop := (q.1.cls ≠ "java/lang/invoke/MethodHandle" ∧ q.1.cls ≠ "java/lang/invoke/VarHandle") ∧ Cond.instantiable q.1.cls q.2 ∈ tables_1 ∧ Cond.privateMethod q.1 ∈ tables_1 ∧ Cond.instanceMethod q.1 ∈ tables_1
theorem lw_p0 : lw_okq (⟨"StonesOfWeight$Book", "write", "(III)V"⟩, 13) := ⟨⟨by decide +kernel, by decide +kernel⟩, List.mem_of_getElem? (i := 36) (by decide +kernel), List.mem_of_getElem? (i := 343) (by decide +kernel), List.mem_of_getElem? (i := 344) (by decide +kernel)⟩
theorem lw_p1 : lw_okq (⟨"StonesOfWeight$Book", "apply", "([II)V"⟩, 13) := ⟨⟨by decide +kernel, by decide +kernel⟩, List.mem_of_getElem? (i := 36) (by decide +kernel), List.mem_of_getElem? (i := 347) (by decide +kernel), List.mem_of_getElem? (i := 348) (by decide +kernel)⟩
theorem lw_p2 : lw_okq (⟨"StonesOfWeight$Book", "isSeen", "(I)Z"⟩, 13) := ⟨⟨by decide +kernel, by decide +kernel⟩, List.mem_of_getElem? (i := 36) (by decide +kernel), List.mem_of_getElem? (i := 351) (by decide +kernel), List.mem_of_getElem? (i := 352) (by decide +kernel)⟩
theorem lw_p3 : lw_okq (⟨"StonesOfWeight$Book", "see", "(I)V"⟩, 13) := ⟨⟨by decide +kernel, by decide +kernel⟩, List.mem_of_getElem? (i := 36) (by decide +kernel), List.mem_of_getElem? (i := 355) (by decide +kernel), List.mem_of_getElem? (i := 356) (by decide +kernel)⟩
theorem lw_p4 : lw_okq (⟨"StonesOfWeight$Book", "agrees", "(III)Z"⟩, 13) := ⟨⟨by decide +kernel, by decide +kernel⟩, List.mem_of_getElem? (i := 36) (by decide +kernel), List.mem_of_getElem? (i := 367) (by decide +kernel), List.mem_of_getElem? (i := 368) (by decide +kernel)⟩
theorem lw_p5 : lw_okq (⟨"StonesOfWeight$Reader", "advance", "()V"⟩, 8) := ⟨⟨by decide +kernel, by decide +kernel⟩, List.mem_of_getElem? (i := 196) (by decide +kernel), List.mem_of_getElem? (i := 432) (by decide +kernel), List.mem_of_getElem? (i := 433) (by decide +kernel)⟩
theorem lw_p6 : lw_okq (⟨"StonesOfWeight$Reader", "remark", "(II)V"⟩, 8) := ⟨⟨by decide +kernel, by decide +kernel⟩, List.mem_of_getElem? (i := 196) (by decide +kernel), List.mem_of_getElem? (i := 452) (by decide +kernel), List.mem_of_getElem? (i := 453) (by decide +kernel)⟩
theorem lw_p7 : lw_okq (⟨"StonesOfWeight$Reader", "readLine", "(I)Z"⟩, 8) := ⟨⟨by decide +kernel, by decide +kernel⟩, List.mem_of_getElem? (i := 196) (by decide +kernel), List.mem_of_getElem? (i := 456) (by decide +kernel), List.mem_of_getElem? (i := 457) (by decide +kernel)⟩
theorem lw_p8 : lw_okq (⟨"StonesOfWeight$Reader", "wordIn", "(Ljava/lang/String;)I"⟩, 8) := ⟨⟨by decide +kernel, by decide +kernel⟩, List.mem_of_getElem? (i := 196) (by decide +kernel), List.mem_of_getElem? (i := 468) (by decide +kernel), List.mem_of_getElem? (i := 469) (by decide +kernel)⟩
theorem lw_p9 : lw_okq (⟨"StonesOfWeight$Reader", "readTests", "(I)Z"⟩, 8) := ⟨⟨by decide +kernel, by decide +kernel⟩, List.mem_of_getElem? (i := 196) (by decide +kernel), List.mem_of_getElem? (i := 520) (by decide +kernel), List.mem_of_getElem? (i := 521) (by decide +kernel)⟩
theorem lw_p10 : lw_okq (⟨"StonesOfWeight$Reader", "readTest", "(I)Z"⟩, 8) := ⟨⟨by decide +kernel, by decide +kernel⟩, List.mem_of_getElem? (i := 196) (by decide +kernel), List.mem_of_getElem? (i := 524) (by decide +kernel), List.mem_of_getElem? (i := 525) (by decide +kernel)⟩
theorem lw_p11 : lw_okq (⟨"StonesOfWeight$Reader", "refuse", "()Z"⟩, 8) := ⟨⟨by decide +kernel, by decide +kernel⟩, List.mem_of_getElem? (i := 196) (by decide +kernel), List.mem_of_getElem? (i := 531) (by decide +kernel), List.mem_of_getElem? (i := 532) (by decide +kernel)⟩
theorem lw_p12 : lw_okq (⟨"StonesOfWeight$Reader", "isSign", "(I)Z"⟩, 8) := ⟨⟨by decide +kernel, by decide +kernel⟩, List.mem_of_getElem? (i := 196) (by decide +kernel), List.mem_of_getElem? (i := 535) (by decide +kernel), List.mem_of_getElem? (i := 536) (by decide +kernel)⟩
theorem lw_p13 : lw_okq (⟨"StonesOfWeight$Reader", "number", "()I"⟩, 8) := ⟨⟨by decide +kernel, by decide +kernel⟩, List.mem_of_getElem? (i := 196) (by decide +kernel), List.mem_of_getElem? (i := 539) (by decide +kernel), List.mem_of_getElem? (i := 540) (by decide +kernel)⟩
theorem lw_p14 : lw_okq (⟨"StonesOfWeight$Reader", "pass", "(I)Z"⟩, 8) := ⟨⟨by decide +kernel, by decide +kernel⟩, List.mem_of_getElem? (i := 196) (by decide +kernel), List.mem_of_getElem? (i := 548) (by decide +kernel), List.mem_of_getElem? (i := 549) (by decide +kernel)⟩
theorem lw_p15 : lw_okq (⟨"StonesOfWeight$Reader", "readDeed", "(I)Z"⟩, 8) := ⟨⟨by decide +kernel, by decide +kernel⟩, List.mem_of_getElem? (i := 196) (by decide +kernel), List.mem_of_getElem? (i := 552) (by decide +kernel), List.mem_of_getElem? (i := 553) (by decide +kernel)⟩
def lw_privs_1 : List (MethodName × Nat) := [(⟨"StonesOfWeight$Book", "write", "(III)V"⟩, 13), (⟨"StonesOfWeight$Book", "apply", "([II)V"⟩, 13), (⟨"StonesOfWeight$Book", "isSeen", "(I)Z"⟩, 13), (⟨"StonesOfWeight$Book", "see", "(I)V"⟩, 13), (⟨"StonesOfWeight$Book", "agrees", "(III)Z"⟩, 13), (⟨"StonesOfWeight$Reader", "advance", "()V"⟩, 8), (⟨"StonesOfWeight$Reader", "remark", "(II)V"⟩, 8), (⟨"StonesOfWeight$Reader", "readLine", "(I)Z"⟩, 8), (⟨"StonesOfWeight$Reader", "wordIn", "(Ljava/lang/String;)I"⟩, 8), (⟨"StonesOfWeight$Reader", "readTests", "(I)Z"⟩, 8), (⟨"StonesOfWeight$Reader", "readTest", "(I)Z"⟩, 8), (⟨"StonesOfWeight$Reader", "refuse", "()Z"⟩, 8), (⟨"StonesOfWeight$Reader", "isSign", "(I)Z"⟩, 8), (⟨"StonesOfWeight$Reader", "number", "()I"⟩, 8), (⟨"StonesOfWeight$Reader", "pass", "(I)Z"⟩, 8), (⟨"StonesOfWeight$Reader", "readDeed", "(I)Z"⟩, 8)]
theorem lw_r1 : ∀ q ∈ lw_privs_1, lw_okq q := List.forall_mem_cons.mpr ⟨lw_p0, List.forall_mem_cons.mpr ⟨lw_p1, List.forall_mem_cons.mpr ⟨lw_p2, List.forall_mem_cons.mpr ⟨lw_p3, List.forall_mem_cons.mpr ⟨lw_p4, List.forall_mem_cons.mpr ⟨lw_p5, List.forall_mem_cons.mpr ⟨lw_p6, List.forall_mem_cons.mpr ⟨lw_p7, List.forall_mem_cons.mpr ⟨lw_p8, List.forall_mem_cons.mpr ⟨lw_p9, List.forall_mem_cons.mpr ⟨lw_p10, List.forall_mem_cons.mpr ⟨lw_p11, List.forall_mem_cons.mpr ⟨lw_p12, List.forall_mem_cons.mpr ⟨lw_p13, List.forall_mem_cons.mpr ⟨lw_p14, List.forall_mem_cons.mpr ⟨lw_p15, fun _ h => absurd h List.not_mem_nil⟩⟩⟩⟩⟩⟩⟩⟩⟩⟩⟩⟩⟩⟩⟩⟩
theorem lw_p16 : lw_okq (⟨"StonesOfWeight$Reader", "readAmounts", "(II)Z"⟩, 8) := ⟨⟨by decide +kernel, by decide +kernel⟩, List.mem_of_getElem? (i := 196) (by decide +kernel), List.mem_of_getElem? (i := 562) (by decide +kernel), List.mem_of_getElem? (i := 563) (by decide +kernel)⟩
theorem lw_p17 : lw_okq (⟨"StonesOfWeight$Pile", "lay", "(LStonesOfWeight$State;I)V"⟩, 7) := ⟨⟨by decide +kernel, by decide +kernel⟩, List.mem_of_getElem? (i := 232) (by decide +kernel), List.mem_of_getElem? (i := 597) (by decide +kernel), List.mem_of_getElem? (i := 598) (by decide +kernel)⟩
theorem lw_p18 : lw_okq (⟨"StonesOfWeight$Pile", "measure", "(LStonesOfWeight$Book;LStonesOfWeight$Rules;I)V"⟩, 7) := ⟨⟨by decide +kernel, by decide +kernel⟩, List.mem_of_getElem? (i := 232) (by decide +kernel), List.mem_of_getElem? (i := 602) (by decide +kernel), List.mem_of_getElem? (i := 603) (by decide +kernel)⟩
theorem lw_p19 : lw_okq (⟨"StonesOfWeight$Pile", "listTraits", "(LStonesOfWeight$Book;I)V"⟩, 7) := ⟨⟨by decide +kernel, by decide +kernel⟩, List.mem_of_getElem? (i := 232) (by decide +kernel), List.mem_of_getElem? (i := 606) (by decide +kernel), List.mem_of_getElem? (i := 607) (by decide +kernel)⟩
theorem lw_p20 : lw_okq (⟨"StonesOfWeight$Rules", "passes", "(I[I)Z"⟩, 9) := ⟨⟨by decide +kernel, by decide +kernel⟩, List.mem_of_getElem? (i := 103) (by decide +kernel), List.mem_of_getElem? (i := 614) (by decide +kernel), List.mem_of_getElem? (i := 615) (by decide +kernel)⟩
theorem lw_p21 : lw_okq (⟨"StonesOfWeight$Choice", "takesMark", "(I)Z"⟩, 5) := ⟨⟨by decide +kernel, by decide +kernel⟩, List.mem_of_getElem? (i := 141) (by decide +kernel), List.mem_of_getElem? (i := 642) (by decide +kernel), List.mem_of_getElem? (i := 643) (by decide +kernel)⟩
theorem lw_p22 : lw_okq (⟨"StonesOfWeight$Pile", "has", "(I)Z"⟩, 7) := ⟨⟨by decide +kernel, by decide +kernel⟩, List.mem_of_getElem? (i := 232) (by decide +kernel), List.mem_of_getElem? (i := 657) (by decide +kernel), List.mem_of_getElem? (i := 658) (by decide +kernel)⟩
theorem lw_p23 : lw_okq (⟨"StonesOfWeight", "bestAmong", "(IIII)I"⟩, 7) := ⟨⟨by decide +kernel, by decide +kernel⟩, List.mem_of_getElem? (i := 22) (by decide +kernel), List.mem_of_getElem? (i := 708) (by decide +kernel), List.mem_of_getElem? (i := 709) (by decide +kernel)⟩
theorem lw_p24 : lw_okq (⟨"StonesOfWeight$Search", "compare", "(II)I"⟩, 7) := ⟨⟨by decide +kernel, by decide +kernel⟩, List.mem_of_getElem? (i := 267) (by decide +kernel), List.mem_of_getElem? (i := 722) (by decide +kernel), List.mem_of_getElem? (i := 723) (by decide +kernel)⟩
theorem lw_p25 : lw_okq (⟨"StonesOfWeight$Search", "inReach", "(I)Z"⟩, 7) := ⟨⟨by decide +kernel, by decide +kernel⟩, List.mem_of_getElem? (i := 267) (by decide +kernel), List.mem_of_getElem? (i := 726) (by decide +kernel), List.mem_of_getElem? (i := 727) (by decide +kernel)⟩
theorem lw_p26 : lw_okq (⟨"StonesOfWeight$Search", "listPeaks", "()V"⟩, 7) := ⟨⟨by decide +kernel, by decide +kernel⟩, List.mem_of_getElem? (i := 267) (by decide +kernel), List.mem_of_getElem? (i := 741) (by decide +kernel), List.mem_of_getElem? (i := 742) (by decide +kernel)⟩
theorem lw_p27 : lw_okq (⟨"StonesOfWeight$Search", "isPeak", "(I)Z"⟩, 7) := ⟨⟨by decide +kernel, by decide +kernel⟩, List.mem_of_getElem? (i := 267) (by decide +kernel), List.mem_of_getElem? (i := 745) (by decide +kernel), List.mem_of_getElem? (i := 746) (by decide +kernel)⟩
theorem lw_p28 : lw_okq (⟨"StonesOfWeight$Search", "betterPeaks", "(I)I"⟩, 7) := ⟨⟨by decide +kernel, by decide +kernel⟩, List.mem_of_getElem? (i := 267) (by decide +kernel), List.mem_of_getElem? (i := 749) (by decide +kernel), List.mem_of_getElem? (i := 750) (by decide +kernel)⟩
theorem lw_p29 : lw_okq (⟨"StonesOfWeight$Search", "isBetter", "(II)Z"⟩, 7) := ⟨⟨by decide +kernel, by decide +kernel⟩, List.mem_of_getElem? (i := 267) (by decide +kernel), List.mem_of_getElem? (i := 753) (by decide +kernel), List.mem_of_getElem? (i := 754) (by decide +kernel)⟩
theorem lw_p30 : lw_okq (⟨"StonesOfWeight$Search", "listOffs", "(LStonesOfWeight$Pile;II)V"⟩, 7) := ⟨⟨by decide +kernel, by decide +kernel⟩, List.mem_of_getElem? (i := 267) (by decide +kernel), List.mem_of_getElem? (i := 765) (by decide +kernel), List.mem_of_getElem? (i := 766) (by decide +kernel)⟩
theorem lw_p31 : lw_okq (⟨"StonesOfWeight$Search", "sumOfListed", "(IIII)J"⟩, 7) := ⟨⟨by decide +kernel, by decide +kernel⟩, List.mem_of_getElem? (i := 267) (by decide +kernel), List.mem_of_getElem? (i := 770) (by decide +kernel), List.mem_of_getElem? (i := 771) (by decide +kernel)⟩
def lw_privs_2 : List (MethodName × Nat) := [(⟨"StonesOfWeight$Reader", "readAmounts", "(II)Z"⟩, 8), (⟨"StonesOfWeight$Pile", "lay", "(LStonesOfWeight$State;I)V"⟩, 7), (⟨"StonesOfWeight$Pile", "measure", "(LStonesOfWeight$Book;LStonesOfWeight$Rules;I)V"⟩, 7), (⟨"StonesOfWeight$Pile", "listTraits", "(LStonesOfWeight$Book;I)V"⟩, 7), (⟨"StonesOfWeight$Rules", "passes", "(I[I)Z"⟩, 9), (⟨"StonesOfWeight$Choice", "takesMark", "(I)Z"⟩, 5), (⟨"StonesOfWeight$Pile", "has", "(I)Z"⟩, 7), (⟨"StonesOfWeight", "bestAmong", "(IIII)I"⟩, 7), (⟨"StonesOfWeight$Search", "compare", "(II)I"⟩, 7), (⟨"StonesOfWeight$Search", "inReach", "(I)Z"⟩, 7), (⟨"StonesOfWeight$Search", "listPeaks", "()V"⟩, 7), (⟨"StonesOfWeight$Search", "isPeak", "(I)Z"⟩, 7), (⟨"StonesOfWeight$Search", "betterPeaks", "(I)I"⟩, 7), (⟨"StonesOfWeight$Search", "isBetter", "(II)Z"⟩, 7), (⟨"StonesOfWeight$Search", "listOffs", "(LStonesOfWeight$Pile;II)V"⟩, 7), (⟨"StonesOfWeight$Search", "sumOfListed", "(IIII)J"⟩, 7)]
theorem lw_r2 : ∀ q ∈ lw_privs_2, lw_okq q := List.forall_mem_cons.mpr ⟨lw_p16, List.forall_mem_cons.mpr ⟨lw_p17, List.forall_mem_cons.mpr ⟨lw_p18, List.forall_mem_cons.mpr ⟨lw_p19, List.forall_mem_cons.mpr ⟨lw_p20, List.forall_mem_cons.mpr ⟨lw_p21, List.forall_mem_cons.mpr ⟨lw_p22, List.forall_mem_cons.mpr ⟨lw_p23, List.forall_mem_cons.mpr ⟨lw_p24, List.forall_mem_cons.mpr ⟨lw_p25, List.forall_mem_cons.mpr ⟨lw_p26, List.forall_mem_cons.mpr ⟨lw_p27, List.forall_mem_cons.mpr ⟨lw_p28, List.forall_mem_cons.mpr ⟨lw_p29, List.forall_mem_cons.mpr ⟨lw_p30, List.forall_mem_cons.mpr ⟨lw_p31, fun _ h => absurd h List.not_mem_nil⟩⟩⟩⟩⟩⟩⟩⟩⟩⟩⟩⟩⟩⟩⟩⟩
theorem lw_p32 : lw_okq (⟨"StonesOfWeight$Odds", "begin", "()V"⟩, 1) := ⟨⟨by decide +kernel, by decide +kernel⟩, List.mem_of_getElem? (i := 295) (by decide +kernel), List.mem_of_getElem? (i := 797) (by decide +kernel), List.mem_of_getElem? (i := 798) (by decide +kernel)⟩
theorem lw_p33 : lw_okq (⟨"StonesOfWeight$Odds", "draw", "(II)V"⟩, 1) := ⟨⟨by decide +kernel, by decide +kernel⟩, List.mem_of_getElem? (i := 295) (by decide +kernel), List.mem_of_getElem? (i := 809) (by decide +kernel), List.mem_of_getElem? (i := 810) (by decide +kernel)⟩
theorem lw_p34 : lw_okq (⟨"StonesOfWeight$Odds", "from", "(I)I"⟩, 1) := ⟨⟨by decide +kernel, by decide +kernel⟩, List.mem_of_getElem? (i := 295) (by decide +kernel), List.mem_of_getElem? (i := 813) (by decide +kernel), List.mem_of_getElem? (i := 814) (by decide +kernel)⟩
theorem lw_p35 : lw_okq (⟨"StonesOfWeight", "weighEvidence", "(II)V"⟩, 7) := ⟨⟨by decide +kernel, by decide +kernel⟩, List.mem_of_getElem? (i := 22) (by decide +kernel), List.mem_of_getElem? (i := 822) (by decide +kernel), List.mem_of_getElem? (i := 823) (by decide +kernel)⟩
theorem lw_p36 : lw_okq (⟨"StonesOfWeight$Pile", "firstWithTimes", "(II)I"⟩, 7) := ⟨⟨by decide +kernel, by decide +kernel⟩, List.mem_of_getElem? (i := 232) (by decide +kernel), List.mem_of_getElem? (i := 869) (by decide +kernel), List.mem_of_getElem? (i := 870) (by decide +kernel)⟩
theorem lw_p37 : lw_okq (⟨"StonesOfWeight$Pile", "areTwins", "(LStonesOfWeight$Book;III)Z"⟩, 7) := ⟨⟨by decide +kernel, by decide +kernel⟩, List.mem_of_getElem? (i := 232) (by decide +kernel), List.mem_of_getElem? (i := 936) (by decide +kernel), List.mem_of_getElem? (i := 937) (by decide +kernel)⟩
theorem lw_p38 : lw_okq (⟨"StonesOfWeight$Search", "setAside", "(LStonesOfWeight$Pile;I)V"⟩, 7) := ⟨⟨by decide +kernel, by decide +kernel⟩, List.mem_of_getElem? (i := 267) (by decide +kernel), List.mem_of_getElem? (i := 949) (by decide +kernel), List.mem_of_getElem? (i := 950) (by decide +kernel)⟩
theorem lw_p39 : lw_okq (⟨"StonesOfWeight$Search", "bestIf", "(LStonesOfWeight$Pile;II)I"⟩, 7) := ⟨⟨by decide +kernel, by decide +kernel⟩, List.mem_of_getElem? (i := 267) (by decide +kernel), List.mem_of_getElem? (i := 953) (by decide +kernel), List.mem_of_getElem? (i := 954) (by decide +kernel)⟩
theorem lw_p40 : lw_okq (⟨"StonesOfWeightModel", "enter", "(III)V"⟩, 51) := ⟨⟨by decide +kernel, by decide +kernel⟩, List.mem_of_getElem? (i := 998) (by decide +kernel), List.mem_of_getElem? (i := 1165) (by decide +kernel), List.mem_of_getElem? (i := 1166) (by decide +kernel)⟩
theorem lw_p41 : lw_okq (⟨"StonesOfWeightModel", "canBe", "(III)Z"⟩, 51) := ⟨⟨by decide +kernel, by decide +kernel⟩, List.mem_of_getElem? (i := 998) (by decide +kernel), List.mem_of_getElem? (i := 1173) (by decide +kernel), List.mem_of_getElem? (i := 1174) (by decide +kernel)⟩
theorem lw_p42 : lw_okq (⟨"StonesOfWeightModel", "factOn", "(III)I"⟩, 51) := ⟨⟨by decide +kernel, by decide +kernel⟩, List.mem_of_getElem? (i := 998) (by decide +kernel), List.mem_of_getElem? (i := 1177) (by decide +kernel), List.mem_of_getElem? (i := 1178) (by decide +kernel)⟩
theorem lw_p43 : lw_okq (⟨"StonesOfWeightModel", "isStone", "(I)Z"⟩, 51) := ⟨⟨by decide +kernel, by decide +kernel⟩, List.mem_of_getElem? (i := 998) (by decide +kernel), List.mem_of_getElem? (i := 1193) (by decide +kernel), List.mem_of_getElem? (i := 1194) (by decide +kernel)⟩
theorem lw_p44 : lw_okq (⟨"StonesOfWeightModel", "dayOfView", "()I"⟩, 51) := ⟨⟨by decide +kernel, by decide +kernel⟩, List.mem_of_getElem? (i := 998) (by decide +kernel), List.mem_of_getElem? (i := 1197) (by decide +kernel), List.mem_of_getElem? (i := 1198) (by decide +kernel)⟩
theorem lw_p45 : lw_okq (⟨"StonesOfWeightModel", "four", "(I)V"⟩, 51) := ⟨⟨by decide +kernel, by decide +kernel⟩, List.mem_of_getElem? (i := 998) (by decide +kernel), List.mem_of_getElem? (i := 1210) (by decide +kernel), List.mem_of_getElem? (i := 1211) (by decide +kernel)⟩
theorem lw_p46 : lw_okq (⟨"StonesOfWeightModel", "next", "()V"⟩, 51) := ⟨⟨by decide +kernel, by decide +kernel⟩, List.mem_of_getElem? (i := 998) (by decide +kernel), List.mem_of_getElem? (i := 1222) (by decide +kernel), List.mem_of_getElem? (i := 1223) (by decide +kernel)⟩
theorem lw_p47 : lw_okq (⟨"StonesOfWeightModel", "see", "()I"⟩, 51) := ⟨⟨by decide +kernel, by decide +kernel⟩, List.mem_of_getElem? (i := 998) (by decide +kernel), List.mem_of_getElem? (i := 1226) (by decide +kernel), List.mem_of_getElem? (i := 1227) (by decide +kernel)⟩
def lw_privs_3 : List (MethodName × Nat) := [(⟨"StonesOfWeight$Odds", "begin", "()V"⟩, 1), (⟨"StonesOfWeight$Odds", "draw", "(II)V"⟩, 1), (⟨"StonesOfWeight$Odds", "from", "(I)I"⟩, 1), (⟨"StonesOfWeight", "weighEvidence", "(II)V"⟩, 7), (⟨"StonesOfWeight$Pile", "firstWithTimes", "(II)I"⟩, 7), (⟨"StonesOfWeight$Pile", "areTwins", "(LStonesOfWeight$Book;III)Z"⟩, 7), (⟨"StonesOfWeight$Search", "setAside", "(LStonesOfWeight$Pile;I)V"⟩, 7), (⟨"StonesOfWeight$Search", "bestIf", "(LStonesOfWeight$Pile;II)I"⟩, 7), (⟨"StonesOfWeightModel", "enter", "(III)V"⟩, 51), (⟨"StonesOfWeightModel", "canBe", "(III)Z"⟩, 51), (⟨"StonesOfWeightModel", "factOn", "(III)I"⟩, 51), (⟨"StonesOfWeightModel", "isStone", "(I)Z"⟩, 51), (⟨"StonesOfWeightModel", "dayOfView", "()I"⟩, 51), (⟨"StonesOfWeightModel", "four", "(I)V"⟩, 51), (⟨"StonesOfWeightModel", "next", "()V"⟩, 51), (⟨"StonesOfWeightModel", "see", "()I"⟩, 51)]
theorem lw_r3 : ∀ q ∈ lw_privs_3, lw_okq q := List.forall_mem_cons.mpr ⟨lw_p32, List.forall_mem_cons.mpr ⟨lw_p33, List.forall_mem_cons.mpr ⟨lw_p34, List.forall_mem_cons.mpr ⟨lw_p35, List.forall_mem_cons.mpr ⟨lw_p36, List.forall_mem_cons.mpr ⟨lw_p37, List.forall_mem_cons.mpr ⟨lw_p38, List.forall_mem_cons.mpr ⟨lw_p39, List.forall_mem_cons.mpr ⟨lw_p40, List.forall_mem_cons.mpr ⟨lw_p41, List.forall_mem_cons.mpr ⟨lw_p42, List.forall_mem_cons.mpr ⟨lw_p43, List.forall_mem_cons.mpr ⟨lw_p44, List.forall_mem_cons.mpr ⟨lw_p45, List.forall_mem_cons.mpr ⟨lw_p46, List.forall_mem_cons.mpr ⟨lw_p47, fun _ h => absurd h List.not_mem_nil⟩⟩⟩⟩⟩⟩⟩⟩⟩⟩⟩⟩⟩⟩⟩⟩
theorem lw_p48 : lw_okq (⟨"StonesOfWeightModel", "oneLine", "(Z)Z"⟩, 51) := ⟨⟨by decide +kernel, by decide +kernel⟩, List.mem_of_getElem? (i := 998) (by decide +kernel), List.mem_of_getElem? (i := 1230) (by decide +kernel), List.mem_of_getElem? (i := 1231) (by decide +kernel)⟩
theorem lw_p49 : lw_okq (⟨"StonesOfWeightModel", "later", "(II)V"⟩, 51) := ⟨⟨by decide +kernel, by decide +kernel⟩, List.mem_of_getElem? (i := 998) (by decide +kernel), List.mem_of_getElem? (i := 1234) (by decide +kernel), List.mem_of_getElem? (i := 1235) (by decide +kernel)⟩
theorem lw_p50 : lw_okq (⟨"StonesOfWeightModel", "isWord", "(J)Z"⟩, 51) := ⟨⟨by decide +kernel, by decide +kernel⟩, List.mem_of_getElem? (i := 998) (by decide +kernel), List.mem_of_getElem? (i := 1239) (by decide +kernel), List.mem_of_getElem? (i := 1240) (by decide +kernel)⟩
theorem lw_p51 : lw_okq (⟨"StonesOfWeightModel", "test", "(ZII)Z"⟩, 51) := ⟨⟨by decide +kernel, by decide +kernel⟩, List.mem_of_getElem? (i := 998) (by decide +kernel), List.mem_of_getElem? (i := 1243) (by decide +kernel), List.mem_of_getElem? (i := 1244) (by decide +kernel)⟩
theorem lw_p52 : lw_okq (⟨"StonesOfWeightModel", "testWord", "(Z)I"⟩, 51) := ⟨⟨by decide +kernel, by decide +kernel⟩, List.mem_of_getElem? (i := 998) (by decide +kernel), List.mem_of_getElem? (i := 1248) (by decide +kernel), List.mem_of_getElem? (i := 1249) (by decide +kernel)⟩
theorem lw_p53 : lw_okq (⟨"StonesOfWeightModel", "wrong", "()Z"⟩, 51) := ⟨⟨by decide +kernel, by decide +kernel⟩, List.mem_of_getElem? (i := 998) (by decide +kernel), List.mem_of_getElem? (i := 1267) (by decide +kernel), List.mem_of_getElem? (i := 1268) (by decide +kernel)⟩
theorem lw_p54 : lw_okq (⟨"StonesOfWeightModel", "need", "(I)Z"⟩, 51) := ⟨⟨by decide +kernel, by decide +kernel⟩, List.mem_of_getElem? (i := 998) (by decide +kernel), List.mem_of_getElem? (i := 1272) (by decide +kernel), List.mem_of_getElem? (i := 1273) (by decide +kernel)⟩
theorem lw_p55 : lw_okq (⟨"StonesOfWeightModel", "isSign", "(I)Z"⟩, 51) := ⟨⟨by decide +kernel, by decide +kernel⟩, List.mem_of_getElem? (i := 998) (by decide +kernel), List.mem_of_getElem? (i := 1276) (by decide +kernel), List.mem_of_getElem? (i := 1277) (by decide +kernel)⟩
theorem lw_p56 : lw_okq (⟨"StonesOfWeightModel", "actWord", "(Z)I"⟩, 51) := ⟨⟨by decide +kernel, by decide +kernel⟩, List.mem_of_getElem? (i := 998) (by decide +kernel), List.mem_of_getElem? (i := 1280) (by decide +kernel), List.mem_of_getElem? (i := 1281) (by decide +kernel)⟩
theorem lw_p57 : lw_okq (⟨"StonesOfWeightModel", "numbers", "(I)Z"⟩, 51) := ⟨⟨by decide +kernel, by decide +kernel⟩, List.mem_of_getElem? (i := 998) (by decide +kernel), List.mem_of_getElem? (i := 1291) (by decide +kernel), List.mem_of_getElem? (i := 1292) (by decide +kernel)⟩
theorem lw_p58 : lw_okq (⟨"StonesOfWeightModel", "look", "()V"⟩, 51) := ⟨⟨by decide +kernel, by decide +kernel⟩, List.mem_of_getElem? (i := 998) (by decide +kernel), List.mem_of_getElem? (i := 1308) (by decide +kernel), List.mem_of_getElem? (i := 1309) (by decide +kernel)⟩
theorem lw_p59 : lw_okq (⟨"StonesOfWeightModel", "findSpan", "(I)V"⟩, 51) := ⟨⟨by decide +kernel, by decide +kernel⟩, List.mem_of_getElem? (i := 998) (by decide +kernel), List.mem_of_getElem? (i := 1312) (by decide +kernel), List.mem_of_getElem? (i := 1313) (by decide +kernel)⟩
theorem lw_p60 : lw_okq (⟨"StonesOfWeightModel", "f", "(II)I"⟩, 51) := ⟨⟨by decide +kernel, by decide +kernel⟩, List.mem_of_getElem? (i := 998) (by decide +kernel), List.mem_of_getElem? (i := 1316) (by decide +kernel), List.mem_of_getElem? (i := 1317) (by decide +kernel)⟩
theorem lw_p61 : lw_okq (⟨"StonesOfWeightModel", "holds", "(I)Z"⟩, 51) := ⟨⟨by decide +kernel, by decide +kernel⟩, List.mem_of_getElem? (i := 998) (by decide +kernel), List.mem_of_getElem? (i := 1320) (by decide +kernel), List.mem_of_getElem? (i := 1321) (by decide +kernel)⟩
theorem lw_p62 : lw_okq (⟨"StonesOfWeightModel", "isChosen", "(I)Z"⟩, 51) := ⟨⟨by decide +kernel, by decide +kernel⟩, List.mem_of_getElem? (i := 998) (by decide +kernel), List.mem_of_getElem? (i := 1327) (by decide +kernel), List.mem_of_getElem? (i := 1328) (by decide +kernel)⟩
theorem lw_p63 : lw_okq (⟨"StonesOfWeightModel", "off", "(II)I"⟩, 51) := ⟨⟨by decide +kernel, by decide +kernel⟩, List.mem_of_getElem? (i := 998) (by decide +kernel), List.mem_of_getElem? (i := 1338) (by decide +kernel), List.mem_of_getElem? (i := 1339) (by decide +kernel)⟩
def lw_privs_4 : List (MethodName × Nat) := [(⟨"StonesOfWeightModel", "oneLine", "(Z)Z"⟩, 51), (⟨"StonesOfWeightModel", "later", "(II)V"⟩, 51), (⟨"StonesOfWeightModel", "isWord", "(J)Z"⟩, 51), (⟨"StonesOfWeightModel", "test", "(ZII)Z"⟩, 51), (⟨"StonesOfWeightModel", "testWord", "(Z)I"⟩, 51), (⟨"StonesOfWeightModel", "wrong", "()Z"⟩, 51), (⟨"StonesOfWeightModel", "need", "(I)Z"⟩, 51), (⟨"StonesOfWeightModel", "isSign", "(I)Z"⟩, 51), (⟨"StonesOfWeightModel", "actWord", "(Z)I"⟩, 51), (⟨"StonesOfWeightModel", "numbers", "(I)Z"⟩, 51), (⟨"StonesOfWeightModel", "look", "()V"⟩, 51), (⟨"StonesOfWeightModel", "findSpan", "(I)V"⟩, 51), (⟨"StonesOfWeightModel", "f", "(II)I"⟩, 51), (⟨"StonesOfWeightModel", "holds", "(I)Z"⟩, 51), (⟨"StonesOfWeightModel", "isChosen", "(I)Z"⟩, 51), (⟨"StonesOfWeightModel", "off", "(II)I"⟩, 51)]
theorem lw_r4 : ∀ q ∈ lw_privs_4, lw_okq q := List.forall_mem_cons.mpr ⟨lw_p48, List.forall_mem_cons.mpr ⟨lw_p49, List.forall_mem_cons.mpr ⟨lw_p50, List.forall_mem_cons.mpr ⟨lw_p51, List.forall_mem_cons.mpr ⟨lw_p52, List.forall_mem_cons.mpr ⟨lw_p53, List.forall_mem_cons.mpr ⟨lw_p54, List.forall_mem_cons.mpr ⟨lw_p55, List.forall_mem_cons.mpr ⟨lw_p56, List.forall_mem_cons.mpr ⟨lw_p57, List.forall_mem_cons.mpr ⟨lw_p58, List.forall_mem_cons.mpr ⟨lw_p59, List.forall_mem_cons.mpr ⟨lw_p60, List.forall_mem_cons.mpr ⟨lw_p61, List.forall_mem_cons.mpr ⟨lw_p62, List.forall_mem_cons.mpr ⟨lw_p63, fun _ h => absurd h List.not_mem_nil⟩⟩⟩⟩⟩⟩⟩⟩⟩⟩⟩⟩⟩⟩⟩⟩
theorem lw_p64 : lw_okq (⟨"StonesOfWeightModel", "timesOf", "(II)I"⟩, 51) := ⟨⟨by decide +kernel, by decide +kernel⟩, List.mem_of_getElem? (i := 998) (by decide +kernel), List.mem_of_getElem? (i := 1342) (by decide +kernel), List.mem_of_getElem? (i := 1343) (by decide +kernel)⟩
theorem lw_p65 : lw_okq (⟨"StonesOfWeightModel", "shortOf", "(II)I"⟩, 51) := ⟨⟨by decide +kernel, by decide +kernel⟩, List.mem_of_getElem? (i := 998) (by decide +kernel), List.mem_of_getElem? (i := 1349) (by decide +kernel), List.mem_of_getElem? (i := 1350) (by decide +kernel)⟩
theorem lw_p66 : lw_okq (⟨"StonesOfWeightModel", "scoreOf", "(I)I"⟩, 51) := ⟨⟨by decide +kernel, by decide +kernel⟩, List.mem_of_getElem? (i := 998) (by decide +kernel), List.mem_of_getElem? (i := 1358) (by decide +kernel), List.mem_of_getElem? (i := 1359) (by decide +kernel)⟩
theorem lw_p67 : lw_okq (⟨"StonesOfWeightModel", "those", "()I"⟩, 51) := ⟨⟨by decide +kernel, by decide +kernel⟩, List.mem_of_getElem? (i := 998) (by decide +kernel), List.mem_of_getElem? (i := 1369) (by decide +kernel), List.mem_of_getElem? (i := 1370) (by decide +kernel)⟩
theorem lw_p68 : lw_okq (⟨"StonesOfWeightModel", "bestOf", "(II)I"⟩, 51) := ⟨⟨by decide +kernel, by decide +kernel⟩, List.mem_of_getElem? (i := 998) (by decide +kernel), List.mem_of_getElem? (i := 1373) (by decide +kernel), List.mem_of_getElem? (i := 1374) (by decide +kernel)⟩
theorem lw_p69 : lw_okq (⟨"StonesOfWeightModel", "findScores", "(II)V"⟩, 51) := ⟨⟨by decide +kernel, by decide +kernel⟩, List.mem_of_getElem? (i := 998) (by decide +kernel), List.mem_of_getElem? (i := 1377) (by decide +kernel), List.mem_of_getElem? (i := 1378) (by decide +kernel)⟩
theorem lw_p70 : lw_okq (⟨"StonesOfWeightModel", "against", "(III)J"⟩, 51) := ⟨⟨by decide +kernel, by decide +kernel⟩, List.mem_of_getElem? (i := 998) (by decide +kernel), List.mem_of_getElem? (i := 1381) (by decide +kernel), List.mem_of_getElem? (i := 1382) (by decide +kernel)⟩
theorem lw_p71 : lw_okq (⟨"StonesOfWeightModel", "placeOf", "(III)I"⟩, 51) := ⟨⟨by decide +kernel, by decide +kernel⟩, List.mem_of_getElem? (i := 998) (by decide +kernel), List.mem_of_getElem? (i := 1389) (by decide +kernel), List.mem_of_getElem? (i := 1390) (by decide +kernel)⟩
theorem lw_p72 : lw_okq (⟨"StonesOfWeightModel", "isPeak", "(III)Z"⟩, 51) := ⟨⟨by decide +kernel, by decide +kernel⟩, List.mem_of_getElem? (i := 998) (by decide +kernel), List.mem_of_getElem? (i := 1393) (by decide +kernel), List.mem_of_getElem? (i := 1394) (by decide +kernel)⟩
theorem lw_p73 : lw_okq (⟨"StonesOfWeightModel", "sumOf", "(II)J"⟩, 51) := ⟨⟨by decide +kernel, by decide +kernel⟩, List.mem_of_getElem? (i := 998) (by decide +kernel), List.mem_of_getElem? (i := 1401) (by decide +kernel), List.mem_of_getElem? (i := 1402) (by decide +kernel)⟩
theorem lw_p74 : lw_okq (⟨"StonesOfWeightModel", "chanceOf", "(I)J"⟩, 51) := ⟨⟨by decide +kernel, by decide +kernel⟩, List.mem_of_getElem? (i := 998) (by decide +kernel), List.mem_of_getElem? (i := 1414) (by decide +kernel), List.mem_of_getElem? (i := 1415) (by decide +kernel)⟩
theorem lw_p75 : lw_okq (⟨"StonesOfWeightModel", "beginChances", "()V"⟩, 51) := ⟨⟨by decide +kernel, by decide +kernel⟩, List.mem_of_getElem? (i := 998) (by decide +kernel), List.mem_of_getElem? (i := 1418) (by decide +kernel), List.mem_of_getElem? (i := 1419) (by decide +kernel)⟩
theorem lw_p76 : lw_okq (⟨"StonesOfWeightModel", "draw", "(II)V"⟩, 51) := ⟨⟨by decide +kernel, by decide +kernel⟩, List.mem_of_getElem? (i := 998) (by decide +kernel), List.mem_of_getElem? (i := 1426) (by decide +kernel), List.mem_of_getElem? (i := 1427) (by decide +kernel)⟩
theorem lw_p77 : lw_okq (⟨"StonesOfWeightModel", "nearOf", "(I)I"⟩, 51) := ⟨⟨by decide +kernel, by decide +kernel⟩, List.mem_of_getElem? (i := 998) (by decide +kernel), List.mem_of_getElem? (i := 1430) (by decide +kernel), List.mem_of_getElem? (i := 1431) (by decide +kernel)⟩
theorem lw_p78 : lw_okq (⟨"StonesOfWeightModel", "chancesFrom", "(I)J"⟩, 51) := ⟨⟨by decide +kernel, by decide +kernel⟩, List.mem_of_getElem? (i := 998) (by decide +kernel), List.mem_of_getElem? (i := 1434) (by decide +kernel), List.mem_of_getElem? (i := 1435) (by decide +kernel)⟩
theorem lw_p79 : lw_okq (⟨"StonesOfWeightModel", "findProof", "(III)V"⟩, 51) := ⟨⟨by decide +kernel, by decide +kernel⟩, List.mem_of_getElem? (i := 998) (by decide +kernel), List.mem_of_getElem? (i := 1442) (by decide +kernel), List.mem_of_getElem? (i := 1443) (by decide +kernel)⟩
def lw_privs_5 : List (MethodName × Nat) := [(⟨"StonesOfWeightModel", "timesOf", "(II)I"⟩, 51), (⟨"StonesOfWeightModel", "shortOf", "(II)I"⟩, 51), (⟨"StonesOfWeightModel", "scoreOf", "(I)I"⟩, 51), (⟨"StonesOfWeightModel", "those", "()I"⟩, 51), (⟨"StonesOfWeightModel", "bestOf", "(II)I"⟩, 51), (⟨"StonesOfWeightModel", "findScores", "(II)V"⟩, 51), (⟨"StonesOfWeightModel", "against", "(III)J"⟩, 51), (⟨"StonesOfWeightModel", "placeOf", "(III)I"⟩, 51), (⟨"StonesOfWeightModel", "isPeak", "(III)Z"⟩, 51), (⟨"StonesOfWeightModel", "sumOf", "(II)J"⟩, 51), (⟨"StonesOfWeightModel", "chanceOf", "(I)J"⟩, 51), (⟨"StonesOfWeightModel", "beginChances", "()V"⟩, 51), (⟨"StonesOfWeightModel", "draw", "(II)V"⟩, 51), (⟨"StonesOfWeightModel", "nearOf", "(I)I"⟩, 51), (⟨"StonesOfWeightModel", "chancesFrom", "(I)J"⟩, 51), (⟨"StonesOfWeightModel", "findProof", "(III)V"⟩, 51)]
theorem lw_r5 : ∀ q ∈ lw_privs_5, lw_okq q := List.forall_mem_cons.mpr ⟨lw_p64, List.forall_mem_cons.mpr ⟨lw_p65, List.forall_mem_cons.mpr ⟨lw_p66, List.forall_mem_cons.mpr ⟨lw_p67, List.forall_mem_cons.mpr ⟨lw_p68, List.forall_mem_cons.mpr ⟨lw_p69, List.forall_mem_cons.mpr ⟨lw_p70, List.forall_mem_cons.mpr ⟨lw_p71, List.forall_mem_cons.mpr ⟨lw_p72, List.forall_mem_cons.mpr ⟨lw_p73, List.forall_mem_cons.mpr ⟨lw_p74, List.forall_mem_cons.mpr ⟨lw_p75, List.forall_mem_cons.mpr ⟨lw_p76, List.forall_mem_cons.mpr ⟨lw_p77, List.forall_mem_cons.mpr ⟨lw_p78, List.forall_mem_cons.mpr ⟨lw_p79, fun _ h => absurd h List.not_mem_nil⟩⟩⟩⟩⟩⟩⟩⟩⟩⟩⟩⟩⟩⟩⟩⟩
theorem lw_p80 : lw_okq (⟨"StonesOfWeightModel", "isOfSet", "(II)Z"⟩, 51) := ⟨⟨by decide +kernel, by decide +kernel⟩, List.mem_of_getElem? (i := 998) (by decide +kernel), List.mem_of_getElem? (i := 1455) (by decide +kernel), List.mem_of_getElem? (i := 1456) (by decide +kernel)⟩
theorem lw_p81 : lw_okq (⟨"StonesOfWeightModel", "keepChosen", "()V"⟩, 51) := ⟨⟨by decide +kernel, by decide +kernel⟩, List.mem_of_getElem? (i := 998) (by decide +kernel), List.mem_of_getElem? (i := 1463) (by decide +kernel), List.mem_of_getElem? (i := 1464) (by decide +kernel)⟩
theorem lw_p82 : lw_okq (⟨"StonesOfWeightModel", "bestOfTown", "(III)I"⟩, 51) := ⟨⟨by decide +kernel, by decide +kernel⟩, List.mem_of_getElem? (i := 998) (by decide +kernel), List.mem_of_getElem? (i := 1467) (by decide +kernel), List.mem_of_getElem? (i := 1468) (by decide +kernel)⟩
theorem lw_p83 : lw_okq (⟨"StonesOfWeightModel", "areTwins", "(III)Z"⟩, 51) := ⟨⟨by decide +kernel, by decide +kernel⟩, List.mem_of_getElem? (i := 998) (by decide +kernel), List.mem_of_getElem? (i := 1486) (by decide +kernel), List.mem_of_getElem? (i := 1487) (by decide +kernel)⟩
theorem lw_p84 : lw_okq (⟨"StonesOfWeightModel", "worthOf", "(III)I"⟩, 51) := ⟨⟨by decide +kernel, by decide +kernel⟩, List.mem_of_getElem? (i := 998) (by decide +kernel), List.mem_of_getElem? (i := 1494) (by decide +kernel), List.mem_of_getElem? (i := 1495) (by decide +kernel)⟩
theorem lw_p85 : lw_okq (⟨"StonesOfWeightModel", "copy", "(II)V"⟩, 51) := ⟨⟨by decide +kernel, by decide +kernel⟩, List.mem_of_getElem? (i := 998) (by decide +kernel), List.mem_of_getElem? (i := 1510) (by decide +kernel), List.mem_of_getElem? (i := 1511) (by decide +kernel)⟩
def lw_privs_6 : List (MethodName × Nat) := [(⟨"StonesOfWeightModel", "isOfSet", "(II)Z"⟩, 51), (⟨"StonesOfWeightModel", "keepChosen", "()V"⟩, 51), (⟨"StonesOfWeightModel", "bestOfTown", "(III)I"⟩, 51), (⟨"StonesOfWeightModel", "areTwins", "(III)Z"⟩, 51), (⟨"StonesOfWeightModel", "worthOf", "(III)I"⟩, 51), (⟨"StonesOfWeightModel", "copy", "(II)V"⟩, 51)]
theorem lw_r6 : ∀ q ∈ lw_privs_6, lw_okq q := List.forall_mem_cons.mpr ⟨lw_p80, List.forall_mem_cons.mpr ⟨lw_p81, List.forall_mem_cons.mpr ⟨lw_p82, List.forall_mem_cons.mpr ⟨lw_p83, List.forall_mem_cons.mpr ⟨lw_p84, List.forall_mem_cons.mpr ⟨lw_p85, fun _ h => absurd h List.not_mem_nil⟩⟩⟩⟩⟩⟩
def lw_privs : List (MethodName × Nat) := lw_privs_1 ++ (lw_privs_2 ++ (lw_privs_3 ++ (lw_privs_4 ++ (lw_privs_5 ++ (lw_privs_6)))))
def lw_tbl : List Cond := k2_sels lw_privs ++ tables_1
theorem lw_privs_ok : ∀ q ∈ lw_privs, lw_okq q := by
  show ∀ q ∈ lw_privs_1 ++ (lw_privs_2 ++ (lw_privs_3 ++ (lw_privs_4 ++ (lw_privs_5 ++ (lw_privs_6))))), lw_okq q
  exact List.forall_mem_append.mpr ⟨lw_r1, List.forall_mem_append.mpr ⟨lw_r2, List.forall_mem_append.mpr ⟨lw_r3, List.forall_mem_append.mpr ⟨lw_r4, List.forall_mem_append.mpr ⟨lw_r5, lw_r6⟩⟩⟩⟩⟩
end
section
def RX0 : String := "StonesOfWeight$Book"
def TX0 : u_T := fun k => match k with
  | 0 => ("StonesOfWeight$Book", "facts", "[I", true)
  | 1 => ("StonesOfWeight$Book", "seen", "[I", true)
  | 2 => ("StonesOfWeight$Book", "firstStuff", "[I", true)
  | 3 => ("StonesOfWeight$Book", "firstTown", "[I", true)
  | 4 => ("StonesOfWeight$Book", "entryDay", "[I", true)
  | 5 => ("StonesOfWeight$Book", "entryStone", "[I", true)
  | 6 => ("StonesOfWeight$Book", "entryFact", "[I", true)
  | 7 => ("StonesOfWeight$Book", "entryValue", "[I", true)
  | 8 => ("StonesOfWeight$Book", "stones", "I", false)
  | 9 => ("StonesOfWeight$Book", "seenStones", "I", false)
  | 10 => ("StonesOfWeight$Book", "entries", "I", false)
  | 11 => ("StonesOfWeight$Book", "today", "I", false)
  | _ => ("StonesOfWeight$Book", "seenDay", "I", false)
def tyX0 : Nat → FieldType := fun k => match k with
  | 0 => .array .int
  | 1 => .array .int
  | 2 => .array .int
  | 3 => .array .int
  | 4 => .array .int
  | 5 => .array .int
  | 6 => .array .int
  | 7 => .array .int
  | 8 => .int
  | 9 => .int
  | 10 => .int
  | 11 => .int
  | _ => .int
abbrev wsX00 : List Cond := u_ws RX0 TX0 13
theorem nmX0 : ∀ a, a < 13 → ∀ b, b < 13 → a ≠ b → (TX0 a).2.1 ≠ (TX0 b).2.1 := by decide +kernel
theorem tyX0_ok : ∀ k, k < 13 → parseFieldDescriptor (TX0 k).2.2.1 = some (tyX0 k) := by decide +kernel
abbrev cX0_init : ByteArray := prog_2_method_1_code
def yX0_init : MethodName := ⟨RX0, "<init>", "()V"⟩
abbrev cX0_list : ByteArray := prog_2_method_2_code
def yX0_list : MethodName := ⟨RX0, "list", "(III)I"⟩
abbrev cX0_retell : ByteArray := prog_2_method_3_code
def yX0_retell : MethodName := ⟨RX0, "retell", "(III)Z"⟩
abbrev cX0_turnTo : ByteArray := prog_2_method_4_code
def yX0_turnTo : MethodName := ⟨RX0, "turnTo", "(I)Z"⟩
abbrev cX0_lookFrom : ByteArray := prog_2_method_5_code
def yX0_lookFrom : MethodName := ⟨RX0, "lookFrom", "(I)Z"⟩
abbrev cX0_known : ByteArray := prog_2_method_6_code
def yX0_known : MethodName := ⟨RX0, "known", "(II)I"⟩
abbrev cX0_written : ByteArray := prog_2_method_7_code
def yX0_written : MethodName := ⟨RX0, "written", "(II)I"⟩
abbrev cX0_copyFrom : ByteArray := prog_2_method_8_code
def yX0_copyFrom : MethodName := ⟨RX0, "copyFrom", "(LStonesOfWeight$Book;)V"⟩
abbrev cX0_inRange : ByteArray := prog_2_method_9_code
def yX0_inRange : MethodName := ⟨RX0, "inRange", "(II)Z"⟩
abbrev cX0_agrees : ByteArray := prog_2_method_10_code
def yX0_agrees : MethodName := ⟨RX0, "agrees", "(III)Z"⟩
abbrev cX0_isSeen : ByteArray := prog_2_method_11_code
def yX0_isSeen : MethodName := ⟨RX0, "isSeen", "(I)Z"⟩
abbrev cX0_write : ByteArray := prog_2_method_12_code
def yX0_write : MethodName := ⟨RX0, "write", "(III)V"⟩
abbrev cX0_see : ByteArray := prog_2_method_13_code
def yX0_see : MethodName := ⟨RX0, "see", "(I)V"⟩
abbrev cX0_apply : ByteArray := prog_2_method_14_code
def yX0_apply : MethodName := ⟨RX0, "apply", "([II)V"⟩
def RX1 : String := "StonesOfWeight$Choice"
def TX1 : u_T := fun k => match k with
  | 0 => ("StonesOfWeight$Choice", "towns", "I", false)
  | 1 => ("StonesOfWeight$Choice", "stuffs", "I", false)
  | 2 => ("StonesOfWeight$Choice", "firstYear", "I", false)
  | 3 => ("StonesOfWeight$Choice", "lastYear", "I", false)
  | _ => ("StonesOfWeight$Choice", "marks", "I", false)
def tyX1 : Nat → FieldType := fun k => match k with
  | 0 => .int
  | 1 => .int
  | 2 => .int
  | 3 => .int
  | _ => .int
abbrev wsX10 : List Cond := u_ws RX1 TX1 5
theorem nmX1 : ∀ a, a < 5 → ∀ b, b < 5 → a ≠ b → (TX1 a).2.1 ≠ (TX1 b).2.1 := by decide +kernel
theorem tyX1_ok : ∀ k, k < 5 → parseFieldDescriptor (TX1 k).2.2.1 = some (tyX1 k) := by decide +kernel
abbrev cX1_init : ByteArray := prog_3_method_1_code
def yX1_init : MethodName := ⟨RX1, "<init>", "()V"⟩
abbrev cX1_change : ByteArray := prog_3_method_2_code
def yX1_change : MethodName := ⟨RX1, "change", "(IIIII)Z"⟩
abbrev cX1_takes : ByteArray := prog_3_method_3_code
def yX1_takes : MethodName := ⟨RX1, "takes", "(LStonesOfWeight$Book;I)Z"⟩
abbrev cX1_copyFrom : ByteArray := prog_3_method_4_code
def yX1_copyFrom : MethodName := ⟨RX1, "copyFrom", "(LStonesOfWeight$Choice;)V"⟩
abbrev cX1_takesMark : ByteArray := prog_3_method_5_code
def yX1_takesMark : MethodName := ⟨RX1, "takesMark", "(I)Z"⟩
def RX2 : String := "StonesOfWeight$Measure"
def TX2 : u_T := fun k => match k with
  | _ => ("", "", "", false)
def tyX2 : Nat → FieldType := fun k => match k with
  | _ => .int
abbrev wsX20 : List Cond := u_ws RX2 TX2 0
theorem nmX2 : ∀ a, a < 0 → ∀ b, b < 0 → a ≠ b → (TX2 a).2.1 ≠ (TX2 b).2.1 := by decide +kernel
theorem tyX2_ok : ∀ k, k < 0 → parseFieldDescriptor (TX2 k).2.2.1 = some (tyX2 k) := by decide +kernel
abbrev cX2_whenNew : ByteArray := prog_4_method_2_code
def yX2_whenNew : MethodName := ⟨RX2, "whenNew", "(II)I"⟩
abbrev cX2_off : ByteArray := prog_4_method_3_code
def yX2_off : MethodName := ⟨RX2, "off", "(IIII)I"⟩
abbrev cX2_times : ByteArray := prog_4_method_4_code
def yX2_times : MethodName := ⟨RX2, "times", "(IIII)I"⟩
abbrev cX2_shortage : ByteArray := prog_4_method_5_code
def yX2_shortage : MethodName := ⟨RX2, "shortage", "(III)I"⟩
abbrev cX2_luckyPlaces : ByteArray := prog_4_method_6_code
def yX2_luckyPlaces : MethodName := ⟨RX2, "luckyPlaces", "(II)I"⟩
def RX3 : String := "StonesOfWeight$Odds"
def TX3 : u_T := fun k => match k with
  | _ => ("StonesOfWeight$Odds", "row", "[J", true)
def tyX3 : Nat → FieldType := fun k => match k with
  | _ => .array .long
abbrev wsX30 : List Cond := u_ws RX3 TX3 1
theorem nmX3 : ∀ a, a < 1 → ∀ b, b < 1 → a ≠ b → (TX3 a).2.1 ≠ (TX3 b).2.1 := by decide +kernel
theorem tyX3_ok : ∀ k, k < 1 → parseFieldDescriptor (TX3 k).2.2.1 = some (tyX3 k) := by decide +kernel
abbrev cX3_init : ByteArray := prog_5_method_1_code
def yX3_init : MethodName := ⟨RX3, "<init>", "()V"⟩
abbrev cX3_ofNear : ByteArray := prog_5_method_2_code
def yX3_ofNear : MethodName := ⟨RX3, "ofNear", "(LStonesOfWeight$Pile;II)I"⟩
abbrev cX3_ofShort : ByteArray := prog_5_method_3_code
def yX3_ofShort : MethodName := ⟨RX3, "ofShort", "(II)I"⟩
abbrev cX3_begin : ByteArray := prog_5_method_4_code
def yX3_begin : MethodName := ⟨RX3, "begin", "()V"⟩
abbrev cX3_draw : ByteArray := prog_5_method_5_code
def yX3_draw : MethodName := ⟨RX3, "draw", "(II)V"⟩
abbrev cX3_from : ByteArray := prog_5_method_6_code
def yX3_from : MethodName := ⟨RX3, "from", "(I)I"⟩
def RX4 : String := "StonesOfWeight$Pile"
def TX4 : u_T := fun k => match k with
  | 0 => ("StonesOfWeight$Pile", "many", "I", false)
  | 1 => ("StonesOfWeight$Pile", "low", "[I", true)
  | 2 => ("StonesOfWeight$Pile", "high", "[I", true)
  | 3 => ("StonesOfWeight$Pile", "number", "[I", true)
  | 4 => ("StonesOfWeight$Pile", "mark", "[I", true)
  | 5 => ("StonesOfWeight$Pile", "town", "[I", true)
  | _ => ("StonesOfWeight$Pile", "traits", "[I", true)
def tyX4 : Nat → FieldType := fun k => match k with
  | 0 => .int
  | 1 => .array .int
  | 2 => .array .int
  | 3 => .array .int
  | 4 => .array .int
  | 5 => .array .int
  | _ => .array .int
abbrev wsX40 : List Cond := u_ws RX4 TX4 7
theorem nmX4 : ∀ a, a < 7 → ∀ b, b < 7 → a ≠ b → (TX4 a).2.1 ≠ (TX4 b).2.1 := by decide +kernel
theorem tyX4_ok : ∀ k, k < 7 → parseFieldDescriptor (TX4 k).2.2.1 = some (tyX4 k) := by decide +kernel
abbrev cX4_init : ByteArray := prog_6_method_1_code
def yX4_init : MethodName := ⟨RX4, "<init>", "()V"⟩
abbrev cX4_gather : ByteArray := prog_6_method_2_code
def yX4_gather : MethodName := ⟨RX4, "gather", "(LStonesOfWeight$State;II)I"⟩
abbrev cX4_takeAlone : ByteArray := prog_6_method_3_code
def yX4_takeAlone : MethodName := ⟨RX4, "takeAlone", "(LStonesOfWeight$State;I)Z"⟩
abbrev cX4_numberOf : ByteArray := prog_6_method_4_code
def yX4_numberOf : MethodName := ⟨RX4, "numberOf", "(I)I"⟩
abbrev cX4_indexOf : ByteArray := prog_6_method_5_code
def yX4_indexOf : MethodName := ⟨RX4, "indexOf", "(I)I"⟩
abbrev cX4_markOf : ByteArray := prog_6_method_6_code
def yX4_markOf : MethodName := ⟨RX4, "markOf", "(I)I"⟩
abbrev cX4_townOf : ByteArray := prog_6_method_7_code
def yX4_townOf : MethodName := ⟨RX4, "townOf", "(I)I"⟩
abbrev cX4_offOf : ByteArray := prog_6_method_8_code
def yX4_offOf : MethodName := ⟨RX4, "offOf", "(II)I"⟩
abbrev cX4_offIf : ByteArray := prog_6_method_9_code
def yX4_offIf : MethodName := ⟨RX4, "offIf", "(III)I"⟩
abbrev cX4_isNear : ByteArray := prog_6_method_10_code
def yX4_isNear : MethodName := ⟨RX4, "isNear", "(II)Z"⟩
abbrev cX4_timesOf : ByteArray := prog_6_method_11_code
def yX4_timesOf : MethodName := ⟨RX4, "timesOf", "(II)I"⟩
abbrev cX4_shortOf : ByteArray := prog_6_method_12_code
def yX4_shortOf : MethodName := ⟨RX4, "shortOf", "(II)I"⟩
abbrev cX4_luckyOf : ByteArray := prog_6_method_13_code
def yX4_luckyOf : MethodName := ⟨RX4, "luckyOf", "(II)I"⟩
abbrev cX4_scoreBy : ByteArray := prog_6_method_14_code
def yX4_scoreBy : MethodName := ⟨RX4, "scoreBy", "(I)I"⟩
abbrev cX4_nearBy : ByteArray := prog_6_method_15_code
def yX4_nearBy : MethodName := ⟨RX4, "nearBy", "(I)I"⟩
abbrev cX4_townsNear : ByteArray := prog_6_method_16_code
def yX4_townsNear : MethodName := ⟨RX4, "townsNear", "(I)I"⟩
abbrev cX4_marksNear : ByteArray := prog_6_method_17_code
def yX4_marksNear : MethodName := ⟨RX4, "marksNear", "(I)I"⟩
abbrev cX4_shortsBy : ByteArray := prog_6_method_18_code
def yX4_shortsBy : MethodName := ⟨RX4, "shortsBy", "(I)I"⟩
abbrev cX4_doublesBy : ByteArray := prog_6_method_19_code
def yX4_doublesBy : MethodName := ⟨RX4, "doublesBy", "(I)I"⟩
abbrev cX4_lacksBy : ByteArray := prog_6_method_20_code
def yX4_lacksBy : MethodName := ⟨RX4, "lacksBy", "(I)I"⟩
abbrev cX4_greatestTimes : ByteArray := prog_6_method_21_code
def yX4_greatestTimes : MethodName := ⟨RX4, "greatestTimes", "(I)I"⟩
abbrev cX4_leastOfHeap : ByteArray := prog_6_method_22_code
def yX4_leastOfHeap : MethodName := ⟨RX4, "leastOfHeap", "(LStonesOfWeight$Book;II)I"⟩
abbrev cX4_has : ByteArray := prog_6_method_23_code
def yX4_has : MethodName := ⟨RX4, "has", "(I)Z"⟩
abbrev cX4_belongs : ByteArray := prog_6_method_24_code
def yX4_belongs : MethodName := ⟨RX4, "belongs", "(LStonesOfWeight$State;III)Z"⟩
abbrev cX4_lay : ByteArray := prog_6_method_25_code
def yX4_lay : MethodName := ⟨RX4, "lay", "(LStonesOfWeight$State;I)V"⟩
abbrev cX4_measure : ByteArray := prog_6_method_26_code
def yX4_measure : MethodName := ⟨RX4, "measure", "(LStonesOfWeight$Book;LStonesOfWeight$Rules;I)V"⟩
abbrev cX4_listTraits : ByteArray := prog_6_method_27_code
def yX4_listTraits : MethodName := ⟨RX4, "listTraits", "(LStonesOfWeight$Book;I)V"⟩
abbrev cX4_firstWithTimes : ByteArray := prog_6_method_28_code
def yX4_firstWithTimes : MethodName := ⟨RX4, "firstWithTimes", "(II)I"⟩
abbrev cX4_firstIn : ByteArray := prog_6_method_29_code
def yX4_firstIn : MethodName := ⟨RX4, "firstIn", "(J)I"⟩
abbrev cX4_areTwins : ByteArray := prog_6_method_30_code
def yX4_areTwins : MethodName := ⟨RX4, "areTwins", "(LStonesOfWeight$Book;III)Z"⟩
def RX5 : String := "StonesOfWeight$Reader"
def TX5 : u_T := fun k => match k with
  | 0 => ("StonesOfWeight$Reader", "rules", "LStonesOfWeight$Rules;", true)
  | 1 => ("StonesOfWeight$Reader", "fault", "I", false)
  | 2 => ("StonesOfWeight$Reader", "place", "I", false)
  | 3 => ("StonesOfWeight$Reader", "tape", "LStonesOfWeight$Tape;", true)
  | 4 => ("StonesOfWeight$Reader", "proof", "Z", false)
  | 5 => ("StonesOfWeight$Reader", "kind", "I", false)
  | 6 => ("StonesOfWeight$Reader", "start", "I", false)
  | _ => ("StonesOfWeight$Reader", "stop", "I", false)
def tyX5 : Nat → FieldType := fun k => match k with
  | 0 => .object "StonesOfWeight$Rules"
  | 1 => .int
  | 2 => .int
  | 3 => .object "StonesOfWeight$Tape"
  | 4 => .boolean
  | 5 => .int
  | 6 => .int
  | _ => .int
abbrev wsX50 : List Cond := u_ws RX5 TX5 8
theorem nmX5 : ∀ a, a < 8 → ∀ b, b < 8 → a ≠ b → (TX5 a).2.1 ≠ (TX5 b).2.1 := by decide +kernel
theorem tyX5_ok : ∀ k, k < 8 → parseFieldDescriptor (TX5 k).2.2.1 = some (tyX5 k) := by decide +kernel
abbrev cX5_init : ByteArray := prog_7_method_1_code
def yX5_init : MethodName := ⟨RX5, "<init>", "(LStonesOfWeight$Tape;)V"⟩
abbrev cX5_read : ByteArray := prog_7_method_2_code
def yX5_read : MethodName := ⟨RX5, "read", "(Z)Z"⟩
abbrev cX5_readLine : ByteArray := prog_7_method_3_code
def yX5_readLine : MethodName := ⟨RX5, "readLine", "(I)Z"⟩
abbrev cX5_readTests : ByteArray := prog_7_method_4_code
def yX5_readTests : MethodName := ⟨RX5, "readTests", "(I)Z"⟩
abbrev cX5_readTest : ByteArray := prog_7_method_5_code
def yX5_readTest : MethodName := ⟨RX5, "readTest", "(I)Z"⟩
abbrev cX5_readDeed : ByteArray := prog_7_method_6_code
def yX5_readDeed : MethodName := ⟨RX5, "readDeed", "(I)Z"⟩
abbrev cX5_readAmounts : ByteArray := prog_7_method_7_code
def yX5_readAmounts : MethodName := ⟨RX5, "readAmounts", "(II)Z"⟩
abbrev cX5_pass : ByteArray := prog_7_method_8_code
def yX5_pass : MethodName := ⟨RX5, "pass", "(I)Z"⟩
abbrev cX5_refuse : ByteArray := prog_7_method_9_code
def yX5_refuse : MethodName := ⟨RX5, "refuse", "()Z"⟩
abbrev cX5_remark : ByteArray := prog_7_method_10_code
def yX5_remark : MethodName := ⟨RX5, "remark", "(II)V"⟩
abbrev cX5_isSign : ByteArray := prog_7_method_11_code
def yX5_isSign : MethodName := ⟨RX5, "isSign", "(I)Z"⟩
abbrev cX5_wordIn : ByteArray := prog_7_method_12_code
def yX5_wordIn : MethodName := ⟨RX5, "wordIn", "(Ljava/lang/String;)I"⟩
abbrev cX5_number : ByteArray := prog_7_method_13_code
def yX5_number : MethodName := ⟨RX5, "number", "()I"⟩
abbrev cX5_advance : ByteArray := prog_7_method_14_code
def yX5_advance : MethodName := ⟨RX5, "advance", "()V"⟩
abbrev cX5_isBlank : ByteArray := prog_7_method_15_code
def yX5_isBlank : MethodName := ⟨RX5, "isBlank", "(I)Z"⟩
abbrev cX5_isLetter : ByteArray := prog_7_method_16_code
def yX5_isLetter : MethodName := ⟨RX5, "isLetter", "(I)Z"⟩
abbrev cX5_isDigit : ByteArray := prog_7_method_17_code
def yX5_isDigit : MethodName := ⟨RX5, "isDigit", "(I)Z"⟩
abbrev cX5_isSignByte : ByteArray := prog_7_method_18_code
def yX5_isSignByte : MethodName := ⟨RX5, "isSignByte", "(I)Z"⟩
def RX6 : String := "StonesOfWeight$Rules"
def TX6 : u_T := fun k => match k with
  | 0 => ("StonesOfWeight$Rules", "lines", "I", false)
  | 1 => ("StonesOfWeight$Rules", "deed", "[I", true)
  | 2 => ("StonesOfWeight$Rules", "least", "[I", true)
  | 3 => ("StonesOfWeight$Rules", "most", "[I", true)
  | 4 => ("StonesOfWeight$Rules", "tests", "[I", true)
  | 5 => ("StonesOfWeight$Rules", "testKey", "[I", true)
  | 6 => ("StonesOfWeight$Rules", "testSign", "[I", true)
  | 7 => ("StonesOfWeight$Rules", "testBound", "[I", true)
  | _ => ("StonesOfWeight$Rules", "testNot", "[Z", true)
def tyX6 : Nat → FieldType := fun k => match k with
  | 0 => .int
  | 1 => .array .int
  | 2 => .array .int
  | 3 => .array .int
  | 4 => .array .int
  | 5 => .array .int
  | 6 => .array .int
  | 7 => .array .int
  | _ => .array .boolean
abbrev wsX60 : List Cond := u_ws RX6 TX6 9
theorem nmX6 : ∀ a, a < 9 → ∀ b, b < 9 → a ≠ b → (TX6 a).2.1 ≠ (TX6 b).2.1 := by decide +kernel
theorem tyX6_ok : ∀ k, k < 9 → parseFieldDescriptor (TX6 k).2.2.1 = some (tyX6 k) := by decide +kernel
abbrev cX6_init : ByteArray := prog_8_method_1_code
def yX6_init : MethodName := ⟨RX6, "<init>", "()V"⟩
abbrev cX6_setDeed : ByteArray := prog_8_method_2_code
def yX6_setDeed : MethodName := ⟨RX6, "setDeed", "(IIII)V"⟩
abbrev cX6_clearTests : ByteArray := prog_8_method_3_code
def yX6_clearTests : MethodName := ⟨RX6, "clearTests", "(I)V"⟩
abbrev cX6_addTest : ByteArray := prog_8_method_4_code
def yX6_addTest : MethodName := ⟨RX6, "addTest", "(IZIII)V"⟩
abbrev cX6_holds : ByteArray := prog_8_method_5_code
def yX6_holds : MethodName := ⟨RX6, "holds", "(I[I)Z"⟩
abbrev cX6_deedOf : ByteArray := prog_8_method_6_code
def yX6_deedOf : MethodName := ⟨RX6, "deedOf", "(I)I"⟩
abbrev cX6_leastOf : ByteArray := prog_8_method_7_code
def yX6_leastOf : MethodName := ⟨RX6, "leastOf", "(I)I"⟩
abbrev cX6_mostOf : ByteArray := prog_8_method_8_code
def yX6_mostOf : MethodName := ⟨RX6, "mostOf", "(I)I"⟩
abbrev cX6_copyFrom : ByteArray := prog_8_method_9_code
def yX6_copyFrom : MethodName := ⟨RX6, "copyFrom", "(LStonesOfWeight$Rules;)V"⟩
abbrev cX6_hasLine : ByteArray := prog_8_method_10_code
def yX6_hasLine : MethodName := ⟨RX6, "hasLine", "(I)Z"⟩
abbrev cX6_passes : ByteArray := prog_8_method_11_code
def yX6_passes : MethodName := ⟨RX6, "passes", "(I[I)Z"⟩
def RX7 : String := "StonesOfWeight$Search"
def TX7 : u_T := fun k => match k with
  | 0 => ("StonesOfWeight$Search", "from", "I", false)
  | 1 => ("StonesOfWeight$Search", "to", "I", false)
  | 2 => ("StonesOfWeight$Search", "scores", "[I", true)
  | 3 => ("StonesOfWeight$Search", "scoresBeside", "[I", true)
  | 4 => ("StonesOfWeight$Search", "peaks", "[I", true)
  | 5 => ("StonesOfWeight$Search", "peakCount", "I", false)
  | _ => ("StonesOfWeight$Search", "offs", "[I", true)
def tyX7 : Nat → FieldType := fun k => match k with
  | 0 => .int
  | 1 => .int
  | 2 => .array .int
  | 3 => .array .int
  | 4 => .array .int
  | 5 => .int
  | _ => .array .int
abbrev wsX70 : List Cond := u_ws RX7 TX7 7
theorem nmX7 : ∀ a, a < 7 → ∀ b, b < 7 → a ≠ b → (TX7 a).2.1 ≠ (TX7 b).2.1 := by decide +kernel
theorem tyX7_ok : ∀ k, k < 7 → parseFieldDescriptor (TX7 k).2.2.1 = some (tyX7 k) := by decide +kernel
abbrev cX7_init : ByteArray := prog_9_method_1_code
def yX7_init : MethodName := ⟨RX7, "<init>", "()V"⟩
abbrev cX7_scoreUnits : ByteArray := prog_9_method_2_code
def yX7_scoreUnits : MethodName := ⟨RX7, "scoreUnits", "(LStonesOfWeight$Pile;II)V"⟩
abbrev cX7_bestUnit : ByteArray := prog_9_method_3_code
def yX7_bestUnit : MethodName := ⟨RX7, "bestUnit", "()I"⟩
abbrev cX7_peakAt : ByteArray := prog_9_method_4_code
def yX7_peakAt : MethodName := ⟨RX7, "peakAt", "(I)I"⟩
abbrev cX7_placeOf : ByteArray := prog_9_method_5_code
def yX7_placeOf : MethodName := ⟨RX7, "placeOf", "(I)I"⟩
abbrev cX7_worthOf : ByteArray := prog_9_method_6_code
def yX7_worthOf : MethodName := ⟨RX7, "worthOf", "(LStonesOfWeight$Pile;I)I"⟩
abbrev cX7_sumOfTwo : ByteArray := prog_9_method_7_code
def yX7_sumOfTwo : MethodName := ⟨RX7, "sumOfTwo", "(LStonesOfWeight$Pile;II)J"⟩
abbrev cX7_bestPair : ByteArray := prog_9_method_8_code
def yX7_bestPair : MethodName := ⟨RX7, "bestPair", "(LStonesOfWeight$Pile;II)I"⟩
abbrev cX7_inReach : ByteArray := prog_9_method_9_code
def yX7_inReach : MethodName := ⟨RX7, "inReach", "(I)Z"⟩
abbrev cX7_compare : ByteArray := prog_9_method_10_code
def yX7_compare : MethodName := ⟨RX7, "compare", "(II)I"⟩
abbrev cX7_isBetter : ByteArray := prog_9_method_11_code
def yX7_isBetter : MethodName := ⟨RX7, "isBetter", "(II)Z"⟩
abbrev cX7_isPeak : ByteArray := prog_9_method_12_code
def yX7_isPeak : MethodName := ⟨RX7, "isPeak", "(I)Z"⟩
abbrev cX7_listPeaks : ByteArray := prog_9_method_13_code
def yX7_listPeaks : MethodName := ⟨RX7, "listPeaks", "()V"⟩
abbrev cX7_betterPeaks : ByteArray := prog_9_method_14_code
def yX7_betterPeaks : MethodName := ⟨RX7, "betterPeaks", "(I)I"⟩
abbrev cX7_setAside : ByteArray := prog_9_method_15_code
def yX7_setAside : MethodName := ⟨RX7, "setAside", "(LStonesOfWeight$Pile;I)V"⟩
abbrev cX7_bestIf : ByteArray := prog_9_method_16_code
def yX7_bestIf : MethodName := ⟨RX7, "bestIf", "(LStonesOfWeight$Pile;II)I"⟩
abbrev cX7_listOffs : ByteArray := prog_9_method_17_code
def yX7_listOffs : MethodName := ⟨RX7, "listOffs", "(LStonesOfWeight$Pile;II)V"⟩
abbrev cX7_sumOfListed : ByteArray := prog_9_method_18_code
def yX7_sumOfListed : MethodName := ⟨RX7, "sumOfListed", "(IIII)J"⟩
def RX8 : String := "StonesOfWeight$State"
def TX8 : u_T := fun k => match k with
  | 0 => ("StonesOfWeight$State", "book", "LStonesOfWeight$Book;", true)
  | 1 => ("StonesOfWeight$State", "tape", "LStonesOfWeight$Tape;", true)
  | 2 => ("StonesOfWeight$State", "wear", "LStonesOfWeight$Rules;", true)
  | 3 => ("StonesOfWeight$State", "proof", "LStonesOfWeight$Rules;", true)
  | 4 => ("StonesOfWeight$State", "choice", "LStonesOfWeight$Choice;", true)
  | 5 => ("StonesOfWeight$State", "fault", "I", false)
  | _ => ("StonesOfWeight$State", "place", "I", false)
def tyX8 : Nat → FieldType := fun k => match k with
  | 0 => .object "StonesOfWeight$Book"
  | 1 => .object "StonesOfWeight$Tape"
  | 2 => .object "StonesOfWeight$Rules"
  | 3 => .object "StonesOfWeight$Rules"
  | 4 => .object "StonesOfWeight$Choice"
  | 5 => .int
  | _ => .int
abbrev wsX80 : List Cond := u_ws RX8 TX8 7
theorem nmX8 : ∀ a, a < 7 → ∀ b, b < 7 → a ≠ b → (TX8 a).2.1 ≠ (TX8 b).2.1 := by decide +kernel
theorem tyX8_ok : ∀ k, k < 7 → parseFieldDescriptor (TX8 k).2.2.1 = some (tyX8 k) := by decide +kernel
abbrev cX8_init : ByteArray := prog_10_method_1_code
def yX8_init : MethodName := ⟨RX8, "<init>", "()V"⟩
abbrev cX8_copyFrom : ByteArray := prog_10_method_2_code
def yX8_copyFrom : MethodName := ⟨RX8, "copyFrom", "(LStonesOfWeight$State;)V"⟩
def RX9 : String := "StonesOfWeight$Tape"
def TX9 : u_T := fun k => match k with
  | 0 => ("StonesOfWeight$Tape", "bytes", "[B", true)
  | _ => ("StonesOfWeight$Tape", "length", "I", false)
def tyX9 : Nat → FieldType := fun k => match k with
  | 0 => .array .byte
  | _ => .int
abbrev wsX90 : List Cond := u_ws RX9 TX9 2
theorem nmX9 : ∀ a, a < 2 → ∀ b, b < 2 → a ≠ b → (TX9 a).2.1 ≠ (TX9 b).2.1 := by decide +kernel
theorem tyX9_ok : ∀ k, k < 2 → parseFieldDescriptor (TX9 k).2.2.1 = some (tyX9 k) := by decide +kernel
abbrev cX9_init : ByteArray := prog_11_method_1_code
def yX9_init : MethodName := ⟨RX9, "<init>", "()V"⟩
abbrev cX9_hasRoom : ByteArray := prog_11_method_2_code
def yX9_hasRoom : MethodName := ⟨RX9, "hasRoom", "(I)Z"⟩
abbrev cX9_add : ByteArray := prog_11_method_3_code
def yX9_add : MethodName := ⟨RX9, "add", "(I)V"⟩
abbrev cX9_cut : ByteArray := prog_11_method_4_code
def yX9_cut : MethodName := ⟨RX9, "cut", "(I)Z"⟩
abbrev cX9_byteAt : ByteArray := prog_11_method_5_code
def yX9_byteAt : MethodName := ⟨RX9, "byteAt", "(I)I"⟩
abbrev cX9_copyFrom : ByteArray := prog_11_method_6_code
def yX9_copyFrom : MethodName := ⟨RX9, "copyFrom", "(LStonesOfWeight$Tape;)V"⟩
def RX10 : String := "StonesOfWeight"
def TX10 : u_T := fun k => match k with
  | 0 => ("StonesOfWeight", "now", "LStonesOfWeight$State;", true)
  | 1 => ("StonesOfWeight", "images", "[LStonesOfWeight$State;", true)
  | 2 => ("StonesOfWeight", "reader", "LStonesOfWeight$Reader;", true)
  | 3 => ("StonesOfWeight", "pile", "LStonesOfWeight$Pile;", true)
  | 4 => ("StonesOfWeight", "search", "LStonesOfWeight$Search;", true)
  | 5 => ("StonesOfWeight", "odds", "LStonesOfWeight$Odds;", true)
  | _ => ("StonesOfWeight", "findings", "[I", true)
def tyX10 : Nat → FieldType := fun k => match k with
  | 0 => .object "StonesOfWeight$State"
  | 1 => .array (.object "StonesOfWeight$State")
  | 2 => .object "StonesOfWeight$Reader"
  | 3 => .object "StonesOfWeight$Pile"
  | 4 => .object "StonesOfWeight$Search"
  | 5 => .object "StonesOfWeight$Odds"
  | _ => .array .int
abbrev wsX100 : List Cond := u_ws RX10 TX10 7
theorem nmX10 : ∀ a, a < 7 → ∀ b, b < 7 → a ≠ b → (TX10 a).2.1 ≠ (TX10 b).2.1 := by decide +kernel
theorem tyX10_ok : ∀ k, k < 7 → parseFieldDescriptor (TX10 k).2.2.1 = some (tyX10 k) := by decide +kernel
abbrev cX10_init : ByteArray := prog_1_method_1_code
def yX10_init : MethodName := ⟨RX10, "<init>", "()V"⟩
abbrev cX10_stone : ByteArray := prog_1_method_2_code
def yX10_stone : MethodName := ⟨RX10, "stone", "(III)I"⟩
abbrev cX10_tell : ByteArray := prog_1_method_3_code
def yX10_tell : MethodName := ⟨RX10, "tell", "(III)Z"⟩
abbrev cX10_day : ByteArray := prog_1_method_4_code
def yX10_day : MethodName := ⟨RX10, "day", "(I)Z"⟩
abbrev cX10_view : ByteArray := prog_1_method_5_code
def yX10_view : MethodName := ⟨RX10, "view", "(I)Z"⟩
abbrev cX10_fact : ByteArray := prog_1_method_6_code
def yX10_fact : MethodName := ⟨RX10, "fact", "(II)I"⟩
abbrev cX10_entry : ByteArray := prog_1_method_7_code
def yX10_entry : MethodName := ⟨RX10, "entry", "(II)I"⟩
abbrev cX10_feed : ByteArray := prog_1_method_8_code
def yX10_feed : MethodName := ⟨RX10, "feed", "(IIIII)I"⟩
abbrev cX10_end : ByteArray := prog_1_method_9_code
def yX10_end : MethodName := ⟨RX10, "end", "(I)I"⟩
abbrev cX10_text : ByteArray := prog_1_method_10_code
def yX10_text : MethodName := ⟨RX10, "text", "(Z)I"⟩
abbrev cX10_fault : ByteArray := prog_1_method_11_code
def yX10_fault : MethodName := ⟨RX10, "fault", "(I)I"⟩
abbrev cX10_choose : ByteArray := prog_1_method_12_code
def yX10_choose : MethodName := ⟨RX10, "choose", "(IIIII)Z"⟩
abbrev cX10_span : ByteArray := prog_1_method_13_code
def yX10_span : MethodName := ⟨RX10, "span", "(II)I"⟩
abbrev cX10_by : ByteArray := prog_1_method_14_code
def yX10_by : MethodName := ⟨RX10, "by", "(III)I"⟩
abbrev cX10_score : ByteArray := prog_1_method_15_code
def yX10_score : MethodName := ⟨RX10, "score", "(I)I"⟩
abbrev cX10_best : ByteArray := prog_1_method_16_code
def yX10_best : MethodName := ⟨RX10, "best", "(II)I"⟩
abbrev cX10_peak : ByteArray := prog_1_method_17_code
def yX10_peak : MethodName := ⟨RX10, "peak", "(III)I"⟩
abbrev cX10_pair : ByteArray := prog_1_method_18_code
def yX10_pair : MethodName := ⟨RX10, "pair", "(II)I"⟩
abbrev cX10_sum : ByteArray := prog_1_method_19_code
def yX10_sum : MethodName := ⟨RX10, "sum", "(II)J"⟩
abbrev cX10_chance : ByteArray := prog_1_method_20_code
def yX10_chance : MethodName := ⟨RX10, "chance", "(I)I"⟩
abbrev cX10_verdict : ByteArray := prog_1_method_21_code
def yX10_verdict : MethodName := ⟨RX10, "verdict", "(III)I"⟩
abbrev cX10_set : ByteArray := prog_1_method_22_code
def yX10_set : MethodName := ⟨RX10, "set", "(III)I"⟩
abbrev cX10_rate : ByteArray := prog_1_method_23_code
def yX10_rate : MethodName := ⟨RX10, "rate", "(IIIII)I"⟩
abbrev cX10_drift : ByteArray := prog_1_method_24_code
def yX10_drift : MethodName := ⟨RX10, "drift", "(III)I"⟩
abbrev cX10_owner : ByteArray := prog_1_method_25_code
def yX10_owner : MethodName := ⟨RX10, "owner", "(III)I"⟩
abbrev cX10_heap : ByteArray := prog_1_method_26_code
def yX10_heap : MethodName := ⟨RX10, "heap", "(II)I"⟩
abbrev cX10_anew : ByteArray := prog_1_method_27_code
def yX10_anew : MethodName := ⟨RX10, "anew", "(II)I"⟩
abbrev cX10_worth : ByteArray := prog_1_method_28_code
def yX10_worth : MethodName := ⟨RX10, "worth", "(III)I"⟩
abbrev cX10_count : ByteArray := prog_1_method_29_code
def yX10_count : MethodName := ⟨RX10, "count", "(I)I"⟩
abbrev cX10_image : ByteArray := prog_1_method_30_code
def yX10_image : MethodName := ⟨RX10, "image", "(I)Z"⟩
abbrev cX10_again : ByteArray := prog_1_method_31_code
def yX10_again : MethodName := ⟨RX10, "again", "(I)Z"⟩
abbrev cX10_isUnit : ByteArray := prog_1_method_32_code
def yX10_isUnit : MethodName := ⟨RX10, "isUnit", "(I)Z"⟩
abbrev cX10_isRange : ByteArray := prog_1_method_33_code
def yX10_isRange : MethodName := ⟨RX10, "isRange", "(III)Z"⟩
abbrev cX10_isTown : ByteArray := prog_1_method_34_code
def yX10_isTown : MethodName := ⟨RX10, "isTown", "(I)Z"⟩
abbrev cX10_bestAmong : ByteArray := prog_1_method_35_code
def yX10_bestAmong : MethodName := ⟨RX10, "bestAmong", "(IIII)I"⟩
abbrev cX10_simplestRate : ByteArray := prog_1_method_36_code
def yX10_simplestRate : MethodName := ⟨RX10, "simplestRate", "(III)I"⟩
abbrev cX10_weighEvidence : ByteArray := prog_1_method_37_code
def yX10_weighEvidence : MethodName := ⟨RX10, "weighEvidence", "(II)V"⟩
def RX11 : String := "StonesOfWeightModel"
def TX11 : u_T := fun k => match k with
  | 0 => ("StonesOfWeightModel", "code", "I", false)
  | 1 => ("StonesOfWeightModel", "tape", "[B", true)
  | 2 => ("StonesOfWeightModel", "size", "[I", true)
  | 3 => ("StonesOfWeightModel", "fault", "[I", true)
  | 4 => ("StonesOfWeightModel", "faultPlace", "[I", true)
  | 5 => ("StonesOfWeightModel", "stones", "[I", true)
  | 6 => ("StonesOfWeightModel", "days", "[I", true)
  | 7 => ("StonesOfWeightModel", "viewed", "[I", true)
  | 8 => ("StonesOfWeightModel", "entries", "[I", true)
  | 9 => ("StonesOfWeightModel", "entry", "[I", true)
  | 10 => ("StonesOfWeightModel", "listed", "[I", true)
  | 11 => ("StonesOfWeightModel", "towns", "[I", true)
  | 12 => ("StonesOfWeightModel", "stuffs", "[I", true)
  | 13 => ("StonesOfWeightModel", "years", "[I", true)
  | 14 => ("StonesOfWeightModel", "marks", "[I", true)
  | 15 => ("StonesOfWeightModel", "lines", "[I", true)
  | 16 => ("StonesOfWeightModel", "lineTests", "[I", true)
  | 17 => ("StonesOfWeightModel", "testWhat", "[I", true)
  | 18 => ("StonesOfWeightModel", "testSign", "[I", true)
  | 19 => ("StonesOfWeightModel", "testThan", "[I", true)
  | 20 => ("StonesOfWeightModel", "lineAct", "[I", true)
  | 21 => ("StonesOfWeightModel", "lineOne", "[I", true)
  | 22 => ("StonesOfWeightModel", "lineTwo", "[I", true)
  | 23 => ("StonesOfWeightModel", "ahead", "I", false)
  | 24 => ("StonesOfWeightModel", "length", "I", false)
  | 25 => ("StonesOfWeightModel", "begins", "I", false)
  | 26 => ("StonesOfWeightModel", "sort", "I", false)
  | 27 => ("StonesOfWeightModel", "value", "I", false)
  | 28 => ("StonesOfWeightModel", "word", "J", false)
  | 29 => ("StonesOfWeightModel", "wrongAt", "I", false)
  | 30 => ("StonesOfWeightModel", "laterFault", "I", false)
  | 31 => ("StonesOfWeightModel", "laterPlace", "I", false)
  | 32 => ("StonesOfWeightModel", "newLines", "I", false)
  | 33 => ("StonesOfWeightModel", "newTests", "[I", true)
  | 34 => ("StonesOfWeightModel", "newWhat", "[I", true)
  | 35 => ("StonesOfWeightModel", "newSign", "[I", true)
  | 36 => ("StonesOfWeightModel", "newThan", "[I", true)
  | 37 => ("StonesOfWeightModel", "newAct", "[I", true)
  | 38 => ("StonesOfWeightModel", "newOne", "[I", true)
  | 39 => ("StonesOfWeightModel", "newTwo", "[I", true)
  | 40 => ("StonesOfWeightModel", "seen", "[I", true)
  | 41 => ("StonesOfWeightModel", "many", "I", false)
  | 42 => ("StonesOfWeightModel", "there", "[Z", true)
  | 43 => ("StonesOfWeightModel", "facts", "[I", true)
  | 44 => ("StonesOfWeightModel", "low", "[I", true)
  | 45 => ("StonesOfWeightModel", "high", "[I", true)
  | 46 => ("StonesOfWeightModel", "chosen", "[Z", true)
  | 47 => ("StonesOfWeightModel", "scores", "[I", true)
  | 48 => ("StonesOfWeightModel", "chances", "[J", true)
  | 49 => ("StonesOfWeightModel", "all", "[Z", true)
  | _ => ("StonesOfWeightModel", "kept", "[Z", true)
def tyX11 : Nat → FieldType := fun k => match k with
  | 0 => .int
  | 1 => .array .byte
  | 2 => .array .int
  | 3 => .array .int
  | 4 => .array .int
  | 5 => .array .int
  | 6 => .array .int
  | 7 => .array .int
  | 8 => .array .int
  | 9 => .array .int
  | 10 => .array .int
  | 11 => .array .int
  | 12 => .array .int
  | 13 => .array .int
  | 14 => .array .int
  | 15 => .array .int
  | 16 => .array .int
  | 17 => .array .int
  | 18 => .array .int
  | 19 => .array .int
  | 20 => .array .int
  | 21 => .array .int
  | 22 => .array .int
  | 23 => .int
  | 24 => .int
  | 25 => .int
  | 26 => .int
  | 27 => .int
  | 28 => .long
  | 29 => .int
  | 30 => .int
  | 31 => .int
  | 32 => .int
  | 33 => .array .int
  | 34 => .array .int
  | 35 => .array .int
  | 36 => .array .int
  | 37 => .array .int
  | 38 => .array .int
  | 39 => .array .int
  | 40 => .array .int
  | 41 => .int
  | 42 => .array .boolean
  | 43 => .array .int
  | 44 => .array .int
  | 45 => .array .int
  | 46 => .array .boolean
  | 47 => .array .int
  | 48 => .array .long
  | 49 => .array .boolean
  | _ => .array .boolean
abbrev wsX110 : List Cond := u_ws RX11 TX11 51
theorem nmX11 : ∀ a, a < 51 → ∀ b, b < 51 → a ≠ b → (TX11 a).2.1 ≠ (TX11 b).2.1 := by decide +kernel
theorem tyX11_ok : ∀ k, k < 51 → parseFieldDescriptor (TX11 k).2.2.1 = some (tyX11 k) := by decide +kernel
abbrev cX11_init : ByteArray := prog_13_method_1_code
def yX11_init : MethodName := ⟨RX11, "<init>", "()V"⟩
abbrev cX11_is : ByteArray := prog_13_method_3_code
def yX11_is : MethodName := ⟨RX11, "is", "(III)Z"⟩
abbrev cX11_move : ByteArray := prog_13_method_4_code
def yX11_move : MethodName := ⟨RX11, "move", "([IIII)V"⟩
abbrev cX11_copy : ByteArray := prog_13_method_5_code
def yX11_copy : MethodName := ⟨RX11, "copy", "(II)V"⟩
abbrev cX11_enter : ByteArray := prog_13_method_6_code
def yX11_enter : MethodName := ⟨RX11, "enter", "(III)V"⟩
abbrev cX11_factOn : ByteArray := prog_13_method_7_code
def yX11_factOn : MethodName := ⟨RX11, "factOn", "(III)I"⟩
abbrev cX11_dayOfView : ByteArray := prog_13_method_8_code
def yX11_dayOfView : MethodName := ⟨RX11, "dayOfView", "()I"⟩
abbrev cX11_isStone : ByteArray := prog_13_method_9_code
def yX11_isStone : MethodName := ⟨RX11, "isStone", "(I)Z"⟩
abbrev cX11_stone : ByteArray := prog_13_method_10_code
def yX11_stone : MethodName := ⟨RX11, "stone", "(III)I"⟩
abbrev cX11_canBe : ByteArray := prog_13_method_11_code
def yX11_canBe : MethodName := ⟨RX11, "canBe", "(III)Z"⟩
abbrev cX11_tell : ByteArray := prog_13_method_12_code
def yX11_tell : MethodName := ⟨RX11, "tell", "(III)Z"⟩
abbrev cX11_day : ByteArray := prog_13_method_13_code
def yX11_day : MethodName := ⟨RX11, "day", "(I)Z"⟩
abbrev cX11_view : ByteArray := prog_13_method_14_code
def yX11_view : MethodName := ⟨RX11, "view", "(I)Z"⟩
abbrev cX11_fact : ByteArray := prog_13_method_15_code
def yX11_fact : MethodName := ⟨RX11, "fact", "(II)I"⟩
abbrev cX11_entry : ByteArray := prog_13_method_16_code
def yX11_entry : MethodName := ⟨RX11, "entry", "(II)I"⟩
abbrev cX11_feed : ByteArray := prog_13_method_17_code
def yX11_feed : MethodName := ⟨RX11, "feed", "(IIIII)I"⟩
abbrev cX11_four : ByteArray := prog_13_method_18_code
def yX11_four : MethodName := ⟨RX11, "four", "(I)V"⟩
abbrev cX11_end : ByteArray := prog_13_method_19_code
def yX11_end : MethodName := ⟨RX11, "end", "(I)I"⟩
abbrev cX11_see : ByteArray := prog_13_method_20_code
def yX11_see : MethodName := ⟨RX11, "see", "()I"⟩
abbrev cX11_next : ByteArray := prog_13_method_21_code
def yX11_next : MethodName := ⟨RX11, "next", "()V"⟩
abbrev cX11_isWord : ByteArray := prog_13_method_22_code
def yX11_isWord : MethodName := ⟨RX11, "isWord", "(J)Z"⟩
abbrev cX11_isSign : ByteArray := prog_13_method_23_code
def yX11_isSign : MethodName := ⟨RX11, "isSign", "(I)Z"⟩
abbrev cX11_wrong : ByteArray := prog_13_method_24_code
def yX11_wrong : MethodName := ⟨RX11, "wrong", "()Z"⟩
abbrev cX11_later : ByteArray := prog_13_method_25_code
def yX11_later : MethodName := ⟨RX11, "later", "(II)V"⟩
abbrev cX11_need : ByteArray := prog_13_method_26_code
def yX11_need : MethodName := ⟨RX11, "need", "(I)Z"⟩
abbrev cX11_testWord : ByteArray := prog_13_method_27_code
def yX11_testWord : MethodName := ⟨RX11, "testWord", "(Z)I"⟩
abbrev cX11_actWord : ByteArray := prog_13_method_28_code
def yX11_actWord : MethodName := ⟨RX11, "actWord", "(Z)I"⟩
abbrev cX11_test : ByteArray := prog_13_method_29_code
def yX11_test : MethodName := ⟨RX11, "test", "(ZII)Z"⟩
abbrev cX11_numbers : ByteArray := prog_13_method_30_code
def yX11_numbers : MethodName := ⟨RX11, "numbers", "(I)Z"⟩
abbrev cX11_oneLine : ByteArray := prog_13_method_31_code
def yX11_oneLine : MethodName := ⟨RX11, "oneLine", "(Z)Z"⟩
abbrev cX11_text : ByteArray := prog_13_method_32_code
def yX11_text : MethodName := ⟨RX11, "text", "(Z)I"⟩
abbrev cX11_fault : ByteArray := prog_13_method_33_code
def yX11_fault : MethodName := ⟨RX11, "fault", "(I)I"⟩
abbrev cX11_holds : ByteArray := prog_13_method_34_code
def yX11_holds : MethodName := ⟨RX11, "holds", "(I)Z"⟩
abbrev cX11_f : ByteArray := prog_13_method_35_code
def yX11_f : MethodName := ⟨RX11, "f", "(II)I"⟩
abbrev cX11_held : ByteArray := prog_13_method_36_code
def yX11_held : MethodName := ⟨RX11, "held", "(I)I"⟩
abbrev cX11_findSpan : ByteArray := prog_13_method_37_code
def yX11_findSpan : MethodName := ⟨RX11, "findSpan", "(I)V"⟩
abbrev cX11_isChosen : ByteArray := prog_13_method_38_code
def yX11_isChosen : MethodName := ⟨RX11, "isChosen", "(I)Z"⟩
abbrev cX11_look : ByteArray := prog_13_method_39_code
def yX11_look : MethodName := ⟨RX11, "look", "()V"⟩
abbrev cX11_those : ByteArray := prog_13_method_40_code
def yX11_those : MethodName := ⟨RX11, "those", "()I"⟩
abbrev cX11_choose : ByteArray := prog_13_method_41_code
def yX11_choose : MethodName := ⟨RX11, "choose", "(IIIII)Z"⟩
abbrev cX11_span : ByteArray := prog_13_method_42_code
def yX11_span : MethodName := ⟨RX11, "span", "(II)I"⟩
abbrev cX11_isUnit : ByteArray := prog_13_method_43_code
def yX11_isUnit : MethodName := ⟨RX11, "isUnit", "(I)Z"⟩
abbrev cX11_areUnits : ByteArray := prog_13_method_44_code
def yX11_areUnits : MethodName := ⟨RX11, "areUnits", "(II)Z"⟩
abbrev cX11_far : ByteArray := prog_13_method_45_code
def yX11_far : MethodName := ⟨RX11, "far", "(III)I"⟩
abbrev cX11_timesOf : ByteArray := prog_13_method_46_code
def yX11_timesOf : MethodName := ⟨RX11, "timesOf", "(II)I"⟩
abbrev cX11_off : ByteArray := prog_13_method_47_code
def yX11_off : MethodName := ⟨RX11, "off", "(II)I"⟩
abbrev cX11_shortOf : ByteArray := prog_13_method_48_code
def yX11_shortOf : MethodName := ⟨RX11, "shortOf", "(II)I"⟩
abbrev cX11_by : ByteArray := prog_13_method_49_code
def yX11_by : MethodName := ⟨RX11, "by", "(III)I"⟩
abbrev cX11_scoreOf : ByteArray := prog_13_method_50_code
def yX11_scoreOf : MethodName := ⟨RX11, "scoreOf", "(I)I"⟩
abbrev cX11_score : ByteArray := prog_13_method_51_code
def yX11_score : MethodName := ⟨RX11, "score", "(I)I"⟩
abbrev cX11_findScores : ByteArray := prog_13_method_52_code
def yX11_findScores : MethodName := ⟨RX11, "findScores", "(II)V"⟩
abbrev cX11_against : ByteArray := prog_13_method_53_code
def yX11_against : MethodName := ⟨RX11, "against", "(III)J"⟩
abbrev cX11_bestOf : ByteArray := prog_13_method_54_code
def yX11_bestOf : MethodName := ⟨RX11, "bestOf", "(II)I"⟩
abbrev cX11_best : ByteArray := prog_13_method_55_code
def yX11_best : MethodName := ⟨RX11, "best", "(II)I"⟩
abbrev cX11_isPeak : ByteArray := prog_13_method_56_code
def yX11_isPeak : MethodName := ⟨RX11, "isPeak", "(III)Z"⟩
abbrev cX11_placeOf : ByteArray := prog_13_method_57_code
def yX11_placeOf : MethodName := ⟨RX11, "placeOf", "(III)I"⟩
abbrev cX11_peak : ByteArray := prog_13_method_58_code
def yX11_peak : MethodName := ⟨RX11, "peak", "(III)I"⟩
abbrev cX11_sumOf : ByteArray := prog_13_method_59_code
def yX11_sumOf : MethodName := ⟨RX11, "sumOf", "(II)J"⟩
abbrev cX11_pair : ByteArray := prog_13_method_60_code
def yX11_pair : MethodName := ⟨RX11, "pair", "(II)I"⟩
abbrev cX11_sum : ByteArray := prog_13_method_61_code
def yX11_sum : MethodName := ⟨RX11, "sum", "(II)J"⟩
abbrev cX11_likely : ByteArray := prog_13_method_62_code
def yX11_likely : MethodName := ⟨RX11, "likely", "(II)I"⟩
abbrev cX11_nearOf : ByteArray := prog_13_method_63_code
def yX11_nearOf : MethodName := ⟨RX11, "nearOf", "(I)I"⟩
abbrev cX11_beginChances : ByteArray := prog_13_method_64_code
def yX11_beginChances : MethodName := ⟨RX11, "beginChances", "()V"⟩
abbrev cX11_draw : ByteArray := prog_13_method_65_code
def yX11_draw : MethodName := ⟨RX11, "draw", "(II)V"⟩
abbrev cX11_chancesFrom : ByteArray := prog_13_method_66_code
def yX11_chancesFrom : MethodName := ⟨RX11, "chancesFrom", "(I)J"⟩
abbrev cX11_chanceOf : ByteArray := prog_13_method_67_code
def yX11_chanceOf : MethodName := ⟨RX11, "chanceOf", "(I)J"⟩
abbrev cX11_chance : ByteArray := prog_13_method_68_code
def yX11_chance : MethodName := ⟨RX11, "chance", "(I)I"⟩
abbrev cX11_thousands : ByteArray := prog_13_method_69_code
def yX11_thousands : MethodName := ⟨RX11, "thousands", "(J)I"⟩
abbrev cX11_findProof : ByteArray := prog_13_method_70_code
def yX11_findProof : MethodName := ⟨RX11, "findProof", "(III)V"⟩
abbrev cX11_verdict : ByteArray := prog_13_method_71_code
def yX11_verdict : MethodName := ⟨RX11, "verdict", "(III)I"⟩
abbrev cX11_isOfSet : ByteArray := prog_13_method_72_code
def yX11_isOfSet : MethodName := ⟨RX11, "isOfSet", "(II)Z"⟩
abbrev cX11_set : ByteArray := prog_13_method_73_code
def yX11_set : MethodName := ⟨RX11, "set", "(III)I"⟩
abbrev cX11_keepChosen : ByteArray := prog_13_method_74_code
def yX11_keepChosen : MethodName := ⟨RX11, "keepChosen", "()V"⟩
abbrev cX11_bestOfTown : ByteArray := prog_13_method_75_code
def yX11_bestOfTown : MethodName := ⟨RX11, "bestOfTown", "(III)I"⟩
abbrev cX11_gcd : ByteArray := prog_13_method_76_code
def yX11_gcd : MethodName := ⟨RX11, "gcd", "(II)I"⟩
abbrev cX11_rate : ByteArray := prog_13_method_77_code
def yX11_rate : MethodName := ⟨RX11, "rate", "(IIIII)I"⟩
abbrev cX11_drift : ByteArray := prog_13_method_78_code
def yX11_drift : MethodName := ⟨RX11, "drift", "(III)I"⟩
abbrev cX11_owner : ByteArray := prog_13_method_79_code
def yX11_owner : MethodName := ⟨RX11, "owner", "(III)I"⟩
abbrev cX11_areTwins : ByteArray := prog_13_method_80_code
def yX11_areTwins : MethodName := ⟨RX11, "areTwins", "(III)Z"⟩
abbrev cX11_heap : ByteArray := prog_13_method_81_code
def yX11_heap : MethodName := ⟨RX11, "heap", "(II)I"⟩
abbrev cX11_worthOf : ByteArray := prog_13_method_82_code
def yX11_worthOf : MethodName := ⟨RX11, "worthOf", "(III)I"⟩
abbrev cX11_anew : ByteArray := prog_13_method_83_code
def yX11_anew : MethodName := ⟨RX11, "anew", "(II)I"⟩
abbrev cX11_worth : ByteArray := prog_13_method_84_code
def yX11_worth : MethodName := ⟨RX11, "worth", "(III)I"⟩
abbrev cX11_count : ByteArray := prog_13_method_85_code
def yX11_count : MethodName := ⟨RX11, "count", "(I)I"⟩
abbrev cX11_image : ByteArray := prog_13_method_86_code
def yX11_image : MethodName := ⟨RX11, "image", "(I)Z"⟩
abbrev cX11_again : ByteArray := prog_13_method_87_code
def yX11_again : MethodName := ⟨RX11, "again", "(I)Z"⟩
def RJ6 : String := "java/lang/Integer"
def TJ6 : u_T := fun k => match k with
  | _ => ("", "", "", false)
def tyJ6 : Nat → FieldType := fun k => match k with
  | _ => .int
abbrev wsJ60 : List Cond := u_ws RJ6 TJ6 0
theorem nmJ6 : ∀ a, a < 0 → ∀ b, b < 0 → a ≠ b → (TJ6 a).2.1 ≠ (TJ6 b).2.1 := by decide +kernel
theorem tyJ6_ok : ∀ k, k < 0 → parseFieldDescriptor (TJ6 k).2.2.1 = some (tyJ6 k) := by decide +kernel
abbrev cJ6_bitCount_0f7a4 : ByteArray := prog_14_method_49_code
def yJ6_bitCount_0f7a4 : MethodName := ⟨RJ6, "bitCount", "(I)I"⟩
def RJ13 : String := "java/lang/Long"
def TJ13 : u_T := fun k => match k with
  | _ => ("", "", "", false)
def tyJ13 : Nat → FieldType := fun k => match k with
  | _ => .int
abbrev wsJ130 : List Cond := u_ws RJ13 TJ13 0
theorem nmJ13 : ∀ a, a < 0 → ∀ b, b < 0 → a ≠ b → (TJ13 a).2.1 ≠ (TJ13 b).2.1 := by decide +kernel
theorem tyJ13_ok : ∀ k, k < 0 → parseFieldDescriptor (TJ13 k).2.2.1 = some (tyJ13 k) := by decide +kernel
abbrev cJ13_compare_74951 : ByteArray := prog_15_method_42_code
def yJ13_compare_74951 : MethodName := ⟨RJ13, "compare", "(JJ)I"⟩
def RJ9 : String := "java/lang/Math"
def TJ9 : u_T := fun k => match k with
  | _ => ("", "", "", false)
def tyJ9 : Nat → FieldType := fun k => match k with
  | _ => .int
abbrev wsJ90 : List Cond := u_ws RJ9 TJ9 0
theorem nmJ9 : ∀ a, a < 0 → ∀ b, b < 0 → a ≠ b → (TJ9 a).2.1 ≠ (TJ9 b).2.1 := by decide +kernel
theorem tyJ9_ok : ∀ k, k < 0 → parseFieldDescriptor (TJ9 k).2.2.1 = some (tyJ9 k) := by decide +kernel
abbrev cJ9_abs_0f7a4 : ByteArray := prog_16_method_59_code
def yJ9_abs_0f7a4 : MethodName := ⟨RJ9, "abs", "(I)I"⟩
abbrev cJ9_max_7cf53 : ByteArray := prog_16_method_65_code
def yJ9_max_7cf53 : MethodName := ⟨RJ9, "max", "(II)I"⟩
abbrev cJ9_min_7cf53 : ByteArray := prog_16_method_69_code
def yJ9_min_7cf53 : MethodName := ⟨RJ9, "min", "(II)I"⟩
abbrev cJ9_min_f86c9 : ByteArray := prog_16_method_70_code
def yJ9_min_f86c9 : MethodName := ⟨RJ9, "min", "(JJ)J"⟩
def RJ0 : String := "java/lang/String"
def TJ0 : u_T := fun k => match k with
  | _ => ("", "", "", false)
def tyJ0 : Nat → FieldType := fun k => match k with
  | _ => .int
abbrev wsJ00 : List Cond := u_ws RJ0 TJ0 0
theorem nmJ0 : ∀ a, a < 0 → ∀ b, b < 0 → a ≠ b → (TJ0 a).2.1 ≠ (TJ0 b).2.1 := by decide +kernel
theorem tyJ0_ok : ∀ k, k < 0 → parseFieldDescriptor (TJ0 k).2.2.1 = some (tyJ0 k) := by decide +kernel
abbrev cJ0_length_8abf5 : ByteArray := prog_17_method_54_code
def yJ0_length_8abf5 : MethodName := ⟨RJ0, "length", "()I"⟩
abbrev cJ0_charAt_5068e : ByteArray := prog_17_method_56_code
def yJ0_charAt_5068e : MethodName := ⟨RJ0, "charAt", "(I)C"⟩
abbrev cJ0_coder_7d493 : ByteArray := prog_17_method_152_code
def yJ0_coder_7d493 : MethodName := ⟨RJ0, "coder", "()B"⟩
abbrev cJ0_isLatin1_aae02 : ByteArray := prog_17_method_154_code
def yJ0_isLatin1_aae02 : MethodName := ⟨RJ0, "isLatin1", "()Z"⟩
abbrev cJ0_checkIndex_df160 : ByteArray := prog_17_method_155_code
def yJ0_checkIndex_df160 : MethodName := ⟨RJ0, "checkIndex", "(II)V"⟩
def RJ1 : String := "java/lang/StringLatin1"
def TJ1 : u_T := fun k => match k with
  | _ => ("", "", "", false)
def tyJ1 : Nat → FieldType := fun k => match k with
  | _ => .int
abbrev wsJ10 : List Cond := u_ws RJ1 TJ1 0
theorem nmJ1 : ∀ a, a < 0 → ∀ b, b < 0 → a ≠ b → (TJ1 a).2.1 ≠ (TJ1 b).2.1 := by decide +kernel
theorem tyJ1_ok : ∀ k, k < 0 → parseFieldDescriptor (TJ1 k).2.2.1 = some (tyJ1 k) := by decide +kernel
abbrev cJ1_charAt_3b067 : ByteArray := prog_18_method_2_code
def yJ1_charAt_3b067 : MethodName := ⟨RJ1, "charAt", "([BI)C"⟩
def RJ2 : String := "java/lang/StringUTF16"
def TJ2 : u_T := fun k => match k with
  | _ => ("", "", "", false)
def tyJ2 : Nat → FieldType := fun k => match k with
  | _ => .int
abbrev wsJ20 : List Cond := u_ws RJ2 TJ2 0
theorem nmJ2 : ∀ a, a < 0 → ∀ b, b < 0 → a ≠ b → (TJ2 a).2.1 ≠ (TJ2 b).2.1 := by decide +kernel
theorem tyJ2_ok : ∀ k, k < 0 → parseFieldDescriptor (TJ2 k).2.2.1 = some (tyJ2 k) := by decide +kernel
abbrev cJ2_getChar_3b067 : ByteArray := prog_19_method_5_code
def yJ2_getChar_3b067 : MethodName := ⟨RJ2, "getChar", "([BI)C"⟩
abbrev cJ2_length_9d52b : ByteArray := prog_19_method_6_code
def yJ2_length_9d52b : MethodName := ⟨RJ2, "length", "([B)I"⟩
abbrev cJ2_charAt_3b067 : ByteArray := prog_19_method_83_code
def yJ2_charAt_3b067 : MethodName := ⟨RJ2, "charAt", "([BI)C"⟩
abbrev cJ2_checkIndex_2214a : ByteArray := prog_19_method_91_code
def yJ2_checkIndex_2214a : MethodName := ⟨RJ2, "checkIndex", "(I[B)V"⟩
def RJ10 : String := "java/lang/System"
def TJ10 : u_T := fun k => match k with
  | _ => ("", "", "", false)
def tyJ10 : Nat → FieldType := fun k => match k with
  | _ => .int
abbrev wsJ100 : List Cond := u_ws RJ10 TJ10 0
theorem nmJ10 : ∀ a, a < 0 → ∀ b, b < 0 → a ≠ b → (TJ10 a).2.1 ≠ (TJ10 b).2.1 := by decide +kernel
theorem tyJ10_ok : ∀ k, k < 0 → parseFieldDescriptor (TJ10 k).2.2.1 = some (tyJ10 k) := by decide +kernel
def RJ3 : String := "jdk/internal/util/Preconditions"
def TJ3 : u_T := fun k => match k with
  | _ => ("", "", "", false)
def tyJ3 : Nat → FieldType := fun k => match k with
  | _ => .int
abbrev wsJ30 : List Cond := u_ws RJ3 TJ3 0
theorem nmJ3 : ∀ a, a < 0 → ∀ b, b < 0 → a ≠ b → (TJ3 a).2.1 ≠ (TJ3 b).2.1 := by decide +kernel
theorem tyJ3_ok : ∀ k, k < 0 → parseFieldDescriptor (TJ3 k).2.2.1 = some (tyJ3 k) := by decide +kernel
abbrev cJ3_checkIndex_8e157 : ByteArray := prog_21_method_11_code
def yJ3_checkIndex_8e157 : MethodName := ⟨RJ3, "checkIndex", "(IILjava/util/function/BiFunction;)I"⟩
def RL : String := "StonesOfWeightLaw"
abbrev cL_law : ByteArray := code
def yL_law : MethodName := ⟨RL, "law", "([I)Z"⟩
abbrev vwCl : List vw_C := [(RX0, TX0, 13), (RX1, TX1, 5), (RX3, TX3, 1), (RX4, TX4, 7), (RX5, TX5, 8), (RX6, TX6, 9), (RX7, TX7, 7), (RX8, TX8, 7), (RX9, TX9, 2), (RX10, TX10, 7), (RX11, TX11, 51)]
end
section
theorem dX0_init_0 : decode cX0_init 0 = .ok (.aload_n 0, 1) := by decide +kernel
theorem dX0_init_1 : decode cX0_init 1 = .ok (.invokespecial 3, 3) := by decide +kernel
theorem dX0_init_4 : decode cX0_init 4 = .ok (.aload_n 0, 1) := by decide +kernel
theorem dX0_init_5 : decode cX0_init 5 = .ok (.sipush 352, 3) := by decide +kernel
theorem dX0_init_8 : decode cX0_init 8 = .ok (.newarray .int, 2) := by decide +kernel
theorem dX0_init_10 : decode cX0_init 10 = .ok (.putfield 9, 3) := by decide +kernel
theorem dX0_init_13 : decode cX0_init 13 = .ok (.aload_n 0, 1) := by decide +kernel
theorem dX0_init_14 : decode cX0_init 14 = .ok (.sipush 352, 3) := by decide +kernel
theorem dX0_init_17 : decode cX0_init 17 = .ok (.newarray .int, 2) := by decide +kernel
theorem dX0_init_19 : decode cX0_init 19 = .ok (.putfield 15, 3) := by decide +kernel
theorem dX0_init_22 : decode cX0_init 22 = .ok (.aload_n 0, 1) := by decide +kernel
theorem dX0_init_23 : decode cX0_init 23 = .ok (.bipush 32, 2) := by decide +kernel
theorem dX0_init_25 : decode cX0_init 25 = .ok (.newarray .int, 2) := by decide +kernel
theorem dX0_init_27 : decode cX0_init 27 = .ok (.putfield 18, 3) := by decide +kernel
theorem dX0_init_30 : decode cX0_init 30 = .ok (.aload_n 0, 1) := by decide +kernel
theorem dX0_init_31 : decode cX0_init 31 = .ok (.bipush 32, 2) := by decide +kernel
theorem dX0_init_33 : decode cX0_init 33 = .ok (.newarray .int, 2) := by decide +kernel
theorem dX0_init_35 : decode cX0_init 35 = .ok (.putfield 21, 3) := by decide +kernel
theorem dX0_init_38 : decode cX0_init 38 = .ok (.aload_n 0, 1) := by decide +kernel
theorem dX0_init_39 : decode cX0_init 39 = .ok (.sipush 400, 3) := by decide +kernel
theorem dX0_init_42 : decode cX0_init 42 = .ok (.newarray .int, 2) := by decide +kernel
theorem dX0_init_44 : decode cX0_init 44 = .ok (.putfield 24, 3) := by decide +kernel
theorem dX0_init_47 : decode cX0_init 47 = .ok (.aload_n 0, 1) := by decide +kernel
theorem dX0_init_48 : decode cX0_init 48 = .ok (.sipush 400, 3) := by decide +kernel
theorem dX0_init_51 : decode cX0_init 51 = .ok (.newarray .int, 2) := by decide +kernel
theorem dX0_init_53 : decode cX0_init 53 = .ok (.putfield 27, 3) := by decide +kernel
theorem dX0_init_56 : decode cX0_init 56 = .ok (.aload_n 0, 1) := by decide +kernel
theorem dX0_init_57 : decode cX0_init 57 = .ok (.sipush 400, 3) := by decide +kernel
theorem dX0_init_60 : decode cX0_init 60 = .ok (.newarray .int, 2) := by decide +kernel
theorem dX0_init_62 : decode cX0_init 62 = .ok (.putfield 30, 3) := by decide +kernel
theorem dX0_init_65 : decode cX0_init 65 = .ok (.aload_n 0, 1) := by decide +kernel
theorem dX0_init_66 : decode cX0_init 66 = .ok (.sipush 400, 3) := by decide +kernel
theorem dX0_init_69 : decode cX0_init 69 = .ok (.newarray .int, 2) := by decide +kernel
theorem dX0_init_71 : decode cX0_init 71 = .ok (.putfield 33, 3) := by decide +kernel
theorem dX0_init_74 : decode cX0_init 74 = .ok (.aload_n 0, 1) := by decide +kernel
theorem dX0_init_75 : decode cX0_init 75 = .ok (.iconst 0, 1) := by decide +kernel
theorem dX0_init_76 : decode cX0_init 76 = .ok (.putfield 36, 3) := by decide +kernel
theorem dX0_init_79 : decode cX0_init 79 = .ok (.aload_n 0, 1) := by decide +kernel
theorem dX0_init_80 : decode cX0_init 80 = .ok (.iconst 0, 1) := by decide +kernel
theorem dX0_init_81 : decode cX0_init 81 = .ok (.putfield 40, 3) := by decide +kernel
theorem dX0_init_84 : decode cX0_init 84 = .ok (.aload_n 0, 1) := by decide +kernel
theorem dX0_init_85 : decode cX0_init 85 = .ok (.iconst 0, 1) := by decide +kernel
theorem dX0_init_86 : decode cX0_init 86 = .ok (.putfield 43, 3) := by decide +kernel
theorem dX0_init_89 : decode cX0_init 89 = .ok (.aload_n 0, 1) := by decide +kernel
theorem dX0_init_90 : decode cX0_init 90 = .ok (.iconst 0, 1) := by decide +kernel
theorem dX0_init_91 : decode cX0_init 91 = .ok (.putfield 46, 3) := by decide +kernel
theorem dX0_init_94 : decode cX0_init 94 = .ok (.aload_n 0, 1) := by decide +kernel
theorem dX0_init_95 : decode cX0_init 95 = .ok (.iconst (-1), 1) := by decide +kernel
theorem dX0_init_96 : decode cX0_init 96 = .ok (.putfield 49, 3) := by decide +kernel
theorem dX0_init_99 : decode cX0_init 99 = .ok (.return_, 1) := by decide +kernel
theorem dX0_list_0 : decode cX0_list 0 = .ok (.aload_n 0, 1) := by decide +kernel
theorem dX0_list_1 : decode cX0_list 1 = .ok (.getfield 36, 3) := by decide +kernel
theorem dX0_list_4 : decode cX0_list 4 = .ok (.bipush 32, 2) := by decide +kernel
theorem dX0_list_6 : decode cX0_list 6 = .ok (.if_icmp .ge 37, 3) := by decide +kernel
theorem dX0_list_9 : decode cX0_list 9 = .ok (.aload_n 0, 1) := by decide +kernel
theorem dX0_list_10 : decode cX0_list 10 = .ok (.getfield 43, 3) := by decide +kernel
theorem dX0_list_13 : decode cX0_list 13 = .ok (.sipush 400, 3) := by decide +kernel
theorem dX0_list_16 : decode cX0_list 16 = .ok (.if_icmp .ge 27, 3) := by decide +kernel
theorem dX0_list_19 : decode cX0_list 19 = .ok (.iconst 0, 1) := by decide +kernel
theorem dX0_list_20 : decode cX0_list 20 = .ok (.iload_n 1, 1) := by decide +kernel
theorem dX0_list_21 : decode cX0_list 21 = .ok (.invokestatic 52, 3) := by decide +kernel
theorem dX0_list_24 : decode cX0_list 24 = .ok (.ifCond .eq 19, 3) := by decide +kernel
theorem dX0_list_27 : decode cX0_list 27 = .ok (.iconst 1, 1) := by decide +kernel
theorem dX0_list_28 : decode cX0_list 28 = .ok (.iload_n 2, 1) := by decide +kernel
theorem dX0_list_29 : decode cX0_list 29 = .ok (.invokestatic 52, 3) := by decide +kernel
theorem dX0_list_32 : decode cX0_list 32 = .ok (.ifCond .eq 11, 3) := by decide +kernel
theorem dX0_list_35 : decode cX0_list 35 = .ok (.iconst 4, 1) := by decide +kernel
theorem dX0_list_36 : decode cX0_list 36 = .ok (.iload_n 3, 1) := by decide +kernel
theorem dX0_list_37 : decode cX0_list 37 = .ok (.invokestatic 52, 3) := by decide +kernel
theorem dX0_list_40 : decode cX0_list 40 = .ok (.ifCond .ne 5, 3) := by decide +kernel
theorem dX0_list_43 : decode cX0_list 43 = .ok (.iconst (-1), 1) := by decide +kernel
theorem dX0_list_44 : decode cX0_list 44 = .ok (.ireturn, 1) := by decide +kernel
theorem dX0_list_45 : decode cX0_list 45 = .ok (.aload_n 0, 1) := by decide +kernel
theorem dX0_list_46 : decode cX0_list 46 = .ok (.getfield 36, 3) := by decide +kernel
theorem dX0_list_49 : decode cX0_list 49 = .ok (.istore 4, 2) := by decide +kernel
theorem dX0_list_51 : decode cX0_list 51 = .ok (.aload_n 0, 1) := by decide +kernel
theorem dX0_list_52 : decode cX0_list 52 = .ok (.dup, 1) := by decide +kernel
theorem dX0_list_53 : decode cX0_list 53 = .ok (.getfield 36, 3) := by decide +kernel
theorem dX0_list_56 : decode cX0_list 56 = .ok (.iconst 1, 1) := by decide +kernel
theorem dX0_list_57 : decode cX0_list 57 = .ok (.iadd, 1) := by decide +kernel
theorem dX0_list_58 : decode cX0_list 58 = .ok (.putfield 36, 3) := by decide +kernel
theorem dX0_list_61 : decode cX0_list 61 = .ok (.aload_n 0, 1) := by decide +kernel
theorem dX0_list_62 : decode cX0_list 62 = .ok (.getfield 18, 3) := by decide +kernel
theorem dX0_list_65 : decode cX0_list 65 = .ok (.iload 4, 2) := by decide +kernel
theorem dX0_list_67 : decode cX0_list 67 = .ok (.iload_n 2, 1) := by decide +kernel
theorem dX0_list_68 : decode cX0_list 68 = .ok (.iastore, 1) := by decide +kernel
theorem dX0_list_69 : decode cX0_list 69 = .ok (.aload_n 0, 1) := by decide +kernel
theorem dX0_list_70 : decode cX0_list 70 = .ok (.getfield 21, 3) := by decide +kernel
theorem dX0_list_73 : decode cX0_list 73 = .ok (.iload 4, 2) := by decide +kernel
theorem dX0_list_75 : decode cX0_list 75 = .ok (.iload_n 3, 1) := by decide +kernel
theorem dX0_list_76 : decode cX0_list 76 = .ok (.iastore, 1) := by decide +kernel
theorem dX0_list_77 : decode cX0_list 77 = .ok (.aload_n 0, 1) := by decide +kernel
theorem dX0_list_78 : decode cX0_list 78 = .ok (.iload 4, 2) := by decide +kernel
theorem dX0_list_80 : decode cX0_list 80 = .ok (.iconst (-1), 1) := by decide +kernel
theorem dX0_list_81 : decode cX0_list 81 = .ok (.iload_n 1, 1) := by decide +kernel
theorem dX0_list_82 : decode cX0_list 82 = .ok (.invokevirtual 56, 3) := by decide +kernel
theorem dX0_list_85 : decode cX0_list 85 = .ok (.iload 4, 2) := by decide +kernel
theorem dX0_list_87 : decode cX0_list 87 = .ok (.ireturn, 1) := by decide +kernel
theorem dX0_retell_0 : decode cX0_retell 0 = .ok (.iload_n 1, 1) := by decide +kernel
theorem dX0_retell_1 : decode cX0_retell 1 = .ok (.ifCond .lt 39, 3) := by decide +kernel
theorem dX0_retell_4 : decode cX0_retell 4 = .ok (.iload_n 1, 1) := by decide +kernel
theorem dX0_retell_5 : decode cX0_retell 5 = .ok (.aload_n 0, 1) := by decide +kernel
theorem dX0_retell_6 : decode cX0_retell 6 = .ok (.getfield 36, 3) := by decide +kernel
theorem dX0_retell_9 : decode cX0_retell 9 = .ok (.if_icmp .ge 31, 3) := by decide +kernel
theorem dX0_retell_12 : decode cX0_retell 12 = .ok (.aload_n 0, 1) := by decide +kernel
theorem dX0_retell_13 : decode cX0_retell 13 = .ok (.getfield 43, 3) := by decide +kernel
theorem dX0_retell_16 : decode cX0_retell 16 = .ok (.sipush 400, 3) := by decide +kernel
theorem dX0_retell_19 : decode cX0_retell 19 = .ok (.if_icmp .ge 21, 3) := by decide +kernel
theorem dX0_retell_22 : decode cX0_retell 22 = .ok (.iload_n 2, 1) := by decide +kernel
theorem dX0_retell_23 : decode cX0_retell 23 = .ok (.iload_n 3, 1) := by decide +kernel
theorem dX0_retell_24 : decode cX0_retell 24 = .ok (.invokestatic 52, 3) := by decide +kernel
theorem dX0_retell_27 : decode cX0_retell 27 = .ok (.ifCond .eq 13, 3) := by decide +kernel
theorem dX0_retell_30 : decode cX0_retell 30 = .ok (.aload_n 0, 1) := by decide +kernel
theorem dX0_retell_31 : decode cX0_retell 31 = .ok (.iload_n 1, 1) := by decide +kernel
theorem dX0_retell_32 : decode cX0_retell 32 = .ok (.iload_n 2, 1) := by decide +kernel
theorem dX0_retell_33 : decode cX0_retell 33 = .ok (.iload_n 3, 1) := by decide +kernel
theorem dX0_retell_34 : decode cX0_retell 34 = .ok (.invokevirtual 60, 3) := by decide +kernel
theorem dX0_retell_37 : decode cX0_retell 37 = .ok (.ifCond .ne 5, 3) := by decide +kernel
theorem dX0_retell_40 : decode cX0_retell 40 = .ok (.iconst 0, 1) := by decide +kernel
theorem dX0_retell_41 : decode cX0_retell 41 = .ok (.ireturn, 1) := by decide +kernel
theorem dX0_retell_42 : decode cX0_retell 42 = .ok (.aload_n 0, 1) := by decide +kernel
theorem dX0_retell_43 : decode cX0_retell 43 = .ok (.iload_n 1, 1) := by decide +kernel
theorem dX0_retell_44 : decode cX0_retell 44 = .ok (.iload_n 2, 1) := by decide +kernel
theorem dX0_retell_45 : decode cX0_retell 45 = .ok (.iload_n 3, 1) := by decide +kernel
theorem dX0_retell_46 : decode cX0_retell 46 = .ok (.invokevirtual 56, 3) := by decide +kernel
theorem dX0_retell_49 : decode cX0_retell 49 = .ok (.iconst 1, 1) := by decide +kernel
theorem dX0_retell_50 : decode cX0_retell 50 = .ok (.ireturn, 1) := by decide +kernel
theorem dX0_turnTo_0 : decode cX0_turnTo 0 = .ok (.iload_n 1, 1) := by decide +kernel
theorem dX0_turnTo_1 : decode cX0_turnTo 1 = .ok (.aload_n 0, 1) := by decide +kernel
theorem dX0_turnTo_2 : decode cX0_turnTo 2 = .ok (.getfield 46, 3) := by decide +kernel
theorem dX0_turnTo_5 : decode cX0_turnTo 5 = .ok (.if_icmp .lt 10, 3) := by decide +kernel
theorem dX0_turnTo_8 : decode cX0_turnTo 8 = .ok (.iload_n 1, 1) := by decide +kernel
theorem dX0_turnTo_9 : decode cX0_turnTo 9 = .ok (.sipush 9999, 3) := by decide +kernel
theorem dX0_turnTo_12 : decode cX0_turnTo 12 = .ok (.if_icmp .le 5, 3) := by decide +kernel
theorem dX0_turnTo_15 : decode cX0_turnTo 15 = .ok (.iconst 0, 1) := by decide +kernel
theorem dX0_turnTo_16 : decode cX0_turnTo 16 = .ok (.ireturn, 1) := by decide +kernel
theorem dX0_turnTo_17 : decode cX0_turnTo 17 = .ok (.aload_n 0, 1) := by decide +kernel
theorem dX0_turnTo_18 : decode cX0_turnTo 18 = .ok (.iload_n 1, 1) := by decide +kernel
theorem dX0_turnTo_19 : decode cX0_turnTo 19 = .ok (.putfield 46, 3) := by decide +kernel
theorem dX0_turnTo_22 : decode cX0_turnTo 22 = .ok (.iconst 1, 1) := by decide +kernel
theorem dX0_turnTo_23 : decode cX0_turnTo 23 = .ok (.ireturn, 1) := by decide +kernel
theorem dX0_lookFrom_0 : decode cX0_lookFrom 0 = .ok (.iload_n 1, 1) := by decide +kernel
theorem dX0_lookFrom_1 : decode cX0_lookFrom 1 = .ok (.iconst (-1), 1) := by decide +kernel
theorem dX0_lookFrom_2 : decode cX0_lookFrom 2 = .ok (.if_icmp .eq 17, 3) := by decide +kernel
theorem dX0_lookFrom_5 : decode cX0_lookFrom 5 = .ok (.iload_n 1, 1) := by decide +kernel
theorem dX0_lookFrom_6 : decode cX0_lookFrom 6 = .ok (.ifCond .lt 11, 3) := by decide +kernel
theorem dX0_lookFrom_9 : decode cX0_lookFrom 9 = .ok (.iload_n 1, 1) := by decide +kernel
theorem dX0_lookFrom_10 : decode cX0_lookFrom 10 = .ok (.aload_n 0, 1) := by decide +kernel
theorem dX0_lookFrom_11 : decode cX0_lookFrom 11 = .ok (.getfield 46, 3) := by decide +kernel
theorem dX0_lookFrom_14 : decode cX0_lookFrom 14 = .ok (.if_icmp .le 5, 3) := by decide +kernel
theorem dX0_lookFrom_17 : decode cX0_lookFrom 17 = .ok (.iconst 0, 1) := by decide +kernel
theorem dX0_lookFrom_18 : decode cX0_lookFrom 18 = .ok (.ireturn, 1) := by decide +kernel
theorem dX0_lookFrom_19 : decode cX0_lookFrom 19 = .ok (.aload_n 0, 1) := by decide +kernel
theorem dX0_lookFrom_20 : decode cX0_lookFrom 20 = .ok (.iload_n 1, 1) := by decide +kernel
theorem dX0_lookFrom_21 : decode cX0_lookFrom 21 = .ok (.putfield 49, 3) := by decide +kernel
theorem dX0_lookFrom_24 : decode cX0_lookFrom 24 = .ok (.aload_n 0, 1) := by decide +kernel
theorem dX0_lookFrom_25 : decode cX0_lookFrom 25 = .ok (.iconst 0, 1) := by decide +kernel
theorem dX0_lookFrom_26 : decode cX0_lookFrom 26 = .ok (.putfield 40, 3) := by decide +kernel
theorem dX0_lookFrom_29 : decode cX0_lookFrom 29 = .ok (.iconst 0, 1) := by decide +kernel
theorem dX0_lookFrom_30 : decode cX0_lookFrom 30 = .ok (.istore_n 2, 1) := by decide +kernel
theorem dX0_lookFrom_31 : decode cX0_lookFrom 31 = .ok (.iload_n 2, 1) := by decide +kernel
theorem dX0_lookFrom_32 : decode cX0_lookFrom 32 = .ok (.aload_n 0, 1) := by decide +kernel
theorem dX0_lookFrom_33 : decode cX0_lookFrom 33 = .ok (.getfield 43, 3) := by decide +kernel
theorem dX0_lookFrom_36 : decode cX0_lookFrom 36 = .ok (.if_icmp .ge 34, 3) := by decide +kernel
theorem dX0_lookFrom_39 : decode cX0_lookFrom 39 = .ok (.iload_n 2, 1) := by decide +kernel
theorem dX0_lookFrom_40 : decode cX0_lookFrom 40 = .ok (.sipush 400, 3) := by decide +kernel
theorem dX0_lookFrom_43 : decode cX0_lookFrom 43 = .ok (.if_icmp .ge 27, 3) := by decide +kernel
theorem dX0_lookFrom_46 : decode cX0_lookFrom 46 = .ok (.aload_n 0, 1) := by decide +kernel
theorem dX0_lookFrom_47 : decode cX0_lookFrom 47 = .ok (.aload_n 0, 1) := by decide +kernel
theorem dX0_lookFrom_48 : decode cX0_lookFrom 48 = .ok (.getfield 24, 3) := by decide +kernel
theorem dX0_lookFrom_51 : decode cX0_lookFrom 51 = .ok (.iload_n 2, 1) := by decide +kernel
theorem dX0_lookFrom_52 : decode cX0_lookFrom 52 = .ok (.iaload, 1) := by decide +kernel
theorem dX0_lookFrom_53 : decode cX0_lookFrom 53 = .ok (.invokevirtual 64, 3) := by decide +kernel
theorem dX0_lookFrom_56 : decode cX0_lookFrom 56 = .ok (.ifCond .eq 8, 3) := by decide +kernel
theorem dX0_lookFrom_59 : decode cX0_lookFrom 59 = .ok (.aload_n 0, 1) := by decide +kernel
theorem dX0_lookFrom_60 : decode cX0_lookFrom 60 = .ok (.iload_n 2, 1) := by decide +kernel
theorem dX0_lookFrom_61 : decode cX0_lookFrom 61 = .ok (.invokevirtual 68, 3) := by decide +kernel
theorem dX0_lookFrom_64 : decode cX0_lookFrom 64 = .ok (.iinc 2 1, 3) := by decide +kernel
theorem dX0_lookFrom_67 : decode cX0_lookFrom 67 = .ok (.goto (-36), 3) := by decide +kernel
theorem dX0_lookFrom_70 : decode cX0_lookFrom 70 = .ok (.iconst 1, 1) := by decide +kernel
theorem dX0_lookFrom_71 : decode cX0_lookFrom 71 = .ok (.ireturn, 1) := by decide +kernel
theorem dX0_known_0 : decode cX0_known 0 = .ok (.iload_n 1, 1) := by decide +kernel
theorem dX0_known_1 : decode cX0_known 1 = .ok (.ifCond .lt 27, 3) := by decide +kernel
theorem dX0_known_4 : decode cX0_known 4 = .ok (.iload_n 1, 1) := by decide +kernel
theorem dX0_known_5 : decode cX0_known 5 = .ok (.aload_n 0, 1) := by decide +kernel
theorem dX0_known_6 : decode cX0_known 6 = .ok (.getfield 40, 3) := by decide +kernel
theorem dX0_known_9 : decode cX0_known 9 = .ok (.if_icmp .ge 19, 3) := by decide +kernel
theorem dX0_known_12 : decode cX0_known 12 = .ok (.iload_n 1, 1) := by decide +kernel
theorem dX0_known_13 : decode cX0_known 13 = .ok (.bipush 32, 2) := by decide +kernel
theorem dX0_known_15 : decode cX0_known 15 = .ok (.if_icmp .ge 13, 3) := by decide +kernel
theorem dX0_known_18 : decode cX0_known 18 = .ok (.iload_n 2, 1) := by decide +kernel
theorem dX0_known_19 : decode cX0_known 19 = .ok (.ifCond .lt 9, 3) := by decide +kernel
theorem dX0_known_22 : decode cX0_known 22 = .ok (.iload_n 2, 1) := by decide +kernel
theorem dX0_known_23 : decode cX0_known 23 = .ok (.bipush 11, 2) := by decide +kernel
theorem dX0_known_25 : decode cX0_known 25 = .ok (.if_icmp .lt 6, 3) := by decide +kernel
theorem dX0_known_28 : decode cX0_known 28 = .ok (.ldc 72, 2) := by decide +kernel
theorem dX0_known_30 : decode cX0_known 30 = .ok (.ireturn, 1) := by decide +kernel
theorem dX0_known_31 : decode cX0_known 31 = .ok (.aload_n 0, 1) := by decide +kernel
theorem dX0_known_32 : decode cX0_known 32 = .ok (.getfield 15, 3) := by decide +kernel
theorem dX0_known_35 : decode cX0_known 35 = .ok (.iload_n 1, 1) := by decide +kernel
theorem dX0_known_36 : decode cX0_known 36 = .ok (.bipush 11, 2) := by decide +kernel
theorem dX0_known_38 : decode cX0_known 38 = .ok (.imul, 1) := by decide +kernel
theorem dX0_known_39 : decode cX0_known 39 = .ok (.iload_n 2, 1) := by decide +kernel
theorem dX0_known_40 : decode cX0_known 40 = .ok (.iadd, 1) := by decide +kernel
theorem dX0_known_41 : decode cX0_known 41 = .ok (.iaload, 1) := by decide +kernel
theorem dX0_known_42 : decode cX0_known 42 = .ok (.ireturn, 1) := by decide +kernel
theorem dX0_written_0 : decode cX0_written 0 = .ok (.iload_n 1, 1) := by decide +kernel
theorem dX0_written_1 : decode cX0_written 1 = .ok (.ifCond .lt 18, 3) := by decide +kernel
theorem dX0_written_4 : decode cX0_written 4 = .ok (.iload_n 1, 1) := by decide +kernel
theorem dX0_written_5 : decode cX0_written 5 = .ok (.aload_n 0, 1) := by decide +kernel
theorem dX0_written_6 : decode cX0_written 6 = .ok (.getfield 43, 3) := by decide +kernel
theorem dX0_written_9 : decode cX0_written 9 = .ok (.if_icmp .ge 10, 3) := by decide +kernel
theorem dX0_written_12 : decode cX0_written 12 = .ok (.iload_n 1, 1) := by decide +kernel
theorem dX0_written_13 : decode cX0_written 13 = .ok (.sipush 400, 3) := by decide +kernel
theorem dX0_written_16 : decode cX0_written 16 = .ok (.if_icmp .lt 6, 3) := by decide +kernel
theorem dX0_written_19 : decode cX0_written 19 = .ok (.ldc 72, 2) := by decide +kernel
theorem dX0_written_21 : decode cX0_written 21 = .ok (.ireturn, 1) := by decide +kernel
theorem dX0_written_22 : decode cX0_written 22 = .ok (.iload_n 2, 1) := by decide +kernel
theorem dX0_written_23 : decode cX0_written 23 = .ok (.tableswitch 57 0 3 #[29, 36, 43, 50], 29) := by decide +kernel
theorem dX0_written_52 : decode cX0_written 52 = .ok (.aload_n 0, 1) := by decide +kernel
theorem dX0_written_53 : decode cX0_written 53 = .ok (.getfield 24, 3) := by decide +kernel
theorem dX0_written_56 : decode cX0_written 56 = .ok (.iload_n 1, 1) := by decide +kernel
theorem dX0_written_57 : decode cX0_written 57 = .ok (.iaload, 1) := by decide +kernel
theorem dX0_written_58 : decode cX0_written 58 = .ok (.ireturn, 1) := by decide +kernel
theorem dX0_written_59 : decode cX0_written 59 = .ok (.aload_n 0, 1) := by decide +kernel
theorem dX0_written_60 : decode cX0_written 60 = .ok (.getfield 27, 3) := by decide +kernel
theorem dX0_written_63 : decode cX0_written 63 = .ok (.iload_n 1, 1) := by decide +kernel
theorem dX0_written_64 : decode cX0_written 64 = .ok (.iaload, 1) := by decide +kernel
theorem dX0_written_65 : decode cX0_written 65 = .ok (.ireturn, 1) := by decide +kernel
theorem dX0_written_66 : decode cX0_written 66 = .ok (.aload_n 0, 1) := by decide +kernel
theorem dX0_written_67 : decode cX0_written 67 = .ok (.getfield 30, 3) := by decide +kernel
theorem dX0_written_70 : decode cX0_written 70 = .ok (.iload_n 1, 1) := by decide +kernel
theorem dX0_written_71 : decode cX0_written 71 = .ok (.iaload, 1) := by decide +kernel
theorem dX0_written_72 : decode cX0_written 72 = .ok (.ireturn, 1) := by decide +kernel
theorem dX0_written_73 : decode cX0_written 73 = .ok (.aload_n 0, 1) := by decide +kernel
theorem dX0_written_74 : decode cX0_written 74 = .ok (.getfield 33, 3) := by decide +kernel
theorem dX0_written_77 : decode cX0_written 77 = .ok (.iload_n 1, 1) := by decide +kernel
theorem dX0_written_78 : decode cX0_written 78 = .ok (.iaload, 1) := by decide +kernel
theorem dX0_written_79 : decode cX0_written 79 = .ok (.ireturn, 1) := by decide +kernel
theorem dX0_written_80 : decode cX0_written 80 = .ok (.ldc 72, 2) := by decide +kernel
theorem dX0_written_82 : decode cX0_written 82 = .ok (.ireturn, 1) := by decide +kernel
theorem dX0_copyFrom_0 : decode cX0_copyFrom 0 = .ok (.aload_n 1, 1) := by decide +kernel
theorem dX0_copyFrom_1 : decode cX0_copyFrom 1 = .ok (.getfield 9, 3) := by decide +kernel
theorem dX0_copyFrom_4 : decode cX0_copyFrom 4 = .ok (.iconst 0, 1) := by decide +kernel
theorem dX0_copyFrom_5 : decode cX0_copyFrom 5 = .ok (.aload_n 0, 1) := by decide +kernel
theorem dX0_copyFrom_6 : decode cX0_copyFrom 6 = .ok (.getfield 9, 3) := by decide +kernel
theorem dX0_copyFrom_9 : decode cX0_copyFrom 9 = .ok (.iconst 0, 1) := by decide +kernel
theorem dX0_copyFrom_10 : decode cX0_copyFrom 10 = .ok (.sipush 352, 3) := by decide +kernel
theorem dX0_copyFrom_13 : decode cX0_copyFrom 13 = .ok (.invokestatic 73, 3) := by decide +kernel
theorem dX0_copyFrom_16 : decode cX0_copyFrom 16 = .ok (.aload_n 1, 1) := by decide +kernel
theorem dX0_copyFrom_17 : decode cX0_copyFrom 17 = .ok (.getfield 15, 3) := by decide +kernel
theorem dX0_copyFrom_20 : decode cX0_copyFrom 20 = .ok (.iconst 0, 1) := by decide +kernel
theorem dX0_copyFrom_21 : decode cX0_copyFrom 21 = .ok (.aload_n 0, 1) := by decide +kernel
theorem dX0_copyFrom_22 : decode cX0_copyFrom 22 = .ok (.getfield 15, 3) := by decide +kernel
theorem dX0_copyFrom_25 : decode cX0_copyFrom 25 = .ok (.iconst 0, 1) := by decide +kernel
theorem dX0_copyFrom_26 : decode cX0_copyFrom 26 = .ok (.sipush 352, 3) := by decide +kernel
theorem dX0_copyFrom_29 : decode cX0_copyFrom 29 = .ok (.invokestatic 73, 3) := by decide +kernel
theorem dX0_copyFrom_32 : decode cX0_copyFrom 32 = .ok (.aload_n 1, 1) := by decide +kernel
theorem dX0_copyFrom_33 : decode cX0_copyFrom 33 = .ok (.getfield 18, 3) := by decide +kernel
theorem dX0_copyFrom_36 : decode cX0_copyFrom 36 = .ok (.iconst 0, 1) := by decide +kernel
theorem dX0_copyFrom_37 : decode cX0_copyFrom 37 = .ok (.aload_n 0, 1) := by decide +kernel
theorem dX0_copyFrom_38 : decode cX0_copyFrom 38 = .ok (.getfield 18, 3) := by decide +kernel
theorem dX0_copyFrom_41 : decode cX0_copyFrom 41 = .ok (.iconst 0, 1) := by decide +kernel
theorem dX0_copyFrom_42 : decode cX0_copyFrom 42 = .ok (.bipush 32, 2) := by decide +kernel
theorem dX0_copyFrom_44 : decode cX0_copyFrom 44 = .ok (.invokestatic 73, 3) := by decide +kernel
theorem dX0_copyFrom_47 : decode cX0_copyFrom 47 = .ok (.aload_n 1, 1) := by decide +kernel
theorem dX0_copyFrom_48 : decode cX0_copyFrom 48 = .ok (.getfield 21, 3) := by decide +kernel
theorem dX0_copyFrom_51 : decode cX0_copyFrom 51 = .ok (.iconst 0, 1) := by decide +kernel
theorem dX0_copyFrom_52 : decode cX0_copyFrom 52 = .ok (.aload_n 0, 1) := by decide +kernel
theorem dX0_copyFrom_53 : decode cX0_copyFrom 53 = .ok (.getfield 21, 3) := by decide +kernel
theorem dX0_copyFrom_56 : decode cX0_copyFrom 56 = .ok (.iconst 0, 1) := by decide +kernel
theorem dX0_copyFrom_57 : decode cX0_copyFrom 57 = .ok (.bipush 32, 2) := by decide +kernel
theorem dX0_copyFrom_59 : decode cX0_copyFrom 59 = .ok (.invokestatic 73, 3) := by decide +kernel
theorem dX0_copyFrom_62 : decode cX0_copyFrom 62 = .ok (.aload_n 1, 1) := by decide +kernel
theorem dX0_copyFrom_63 : decode cX0_copyFrom 63 = .ok (.getfield 24, 3) := by decide +kernel
theorem dX0_copyFrom_66 : decode cX0_copyFrom 66 = .ok (.iconst 0, 1) := by decide +kernel
theorem dX0_copyFrom_67 : decode cX0_copyFrom 67 = .ok (.aload_n 0, 1) := by decide +kernel
theorem dX0_copyFrom_68 : decode cX0_copyFrom 68 = .ok (.getfield 24, 3) := by decide +kernel
theorem dX0_copyFrom_71 : decode cX0_copyFrom 71 = .ok (.iconst 0, 1) := by decide +kernel
theorem dX0_copyFrom_72 : decode cX0_copyFrom 72 = .ok (.sipush 400, 3) := by decide +kernel
theorem dX0_copyFrom_75 : decode cX0_copyFrom 75 = .ok (.invokestatic 73, 3) := by decide +kernel
theorem dX0_copyFrom_78 : decode cX0_copyFrom 78 = .ok (.aload_n 1, 1) := by decide +kernel
theorem dX0_copyFrom_79 : decode cX0_copyFrom 79 = .ok (.getfield 27, 3) := by decide +kernel
theorem dX0_copyFrom_82 : decode cX0_copyFrom 82 = .ok (.iconst 0, 1) := by decide +kernel
theorem dX0_copyFrom_83 : decode cX0_copyFrom 83 = .ok (.aload_n 0, 1) := by decide +kernel
theorem dX0_copyFrom_84 : decode cX0_copyFrom 84 = .ok (.getfield 27, 3) := by decide +kernel
theorem dX0_copyFrom_87 : decode cX0_copyFrom 87 = .ok (.iconst 0, 1) := by decide +kernel
theorem dX0_copyFrom_88 : decode cX0_copyFrom 88 = .ok (.sipush 400, 3) := by decide +kernel
theorem dX0_copyFrom_91 : decode cX0_copyFrom 91 = .ok (.invokestatic 73, 3) := by decide +kernel
theorem dX0_copyFrom_94 : decode cX0_copyFrom 94 = .ok (.aload_n 1, 1) := by decide +kernel
theorem dX0_copyFrom_95 : decode cX0_copyFrom 95 = .ok (.getfield 30, 3) := by decide +kernel
theorem dX0_copyFrom_98 : decode cX0_copyFrom 98 = .ok (.iconst 0, 1) := by decide +kernel
theorem dX0_copyFrom_99 : decode cX0_copyFrom 99 = .ok (.aload_n 0, 1) := by decide +kernel
theorem dX0_copyFrom_100 : decode cX0_copyFrom 100 = .ok (.getfield 30, 3) := by decide +kernel
theorem dX0_copyFrom_103 : decode cX0_copyFrom 103 = .ok (.iconst 0, 1) := by decide +kernel
theorem dX0_copyFrom_104 : decode cX0_copyFrom 104 = .ok (.sipush 400, 3) := by decide +kernel
theorem dX0_copyFrom_107 : decode cX0_copyFrom 107 = .ok (.invokestatic 73, 3) := by decide +kernel
theorem dX0_copyFrom_110 : decode cX0_copyFrom 110 = .ok (.aload_n 1, 1) := by decide +kernel
theorem dX0_copyFrom_111 : decode cX0_copyFrom 111 = .ok (.getfield 33, 3) := by decide +kernel
theorem dX0_copyFrom_114 : decode cX0_copyFrom 114 = .ok (.iconst 0, 1) := by decide +kernel
theorem dX0_copyFrom_115 : decode cX0_copyFrom 115 = .ok (.aload_n 0, 1) := by decide +kernel
theorem dX0_copyFrom_116 : decode cX0_copyFrom 116 = .ok (.getfield 33, 3) := by decide +kernel
theorem dX0_copyFrom_119 : decode cX0_copyFrom 119 = .ok (.iconst 0, 1) := by decide +kernel
theorem dX0_copyFrom_120 : decode cX0_copyFrom 120 = .ok (.sipush 400, 3) := by decide +kernel
theorem dX0_copyFrom_123 : decode cX0_copyFrom 123 = .ok (.invokestatic 73, 3) := by decide +kernel
theorem dX0_copyFrom_126 : decode cX0_copyFrom 126 = .ok (.aload_n 0, 1) := by decide +kernel
theorem dX0_copyFrom_127 : decode cX0_copyFrom 127 = .ok (.aload_n 1, 1) := by decide +kernel
theorem dX0_copyFrom_128 : decode cX0_copyFrom 128 = .ok (.getfield 36, 3) := by decide +kernel
theorem dX0_copyFrom_131 : decode cX0_copyFrom 131 = .ok (.putfield 36, 3) := by decide +kernel
theorem dX0_copyFrom_134 : decode cX0_copyFrom 134 = .ok (.aload_n 0, 1) := by decide +kernel
theorem dX0_copyFrom_135 : decode cX0_copyFrom 135 = .ok (.aload_n 1, 1) := by decide +kernel
theorem dX0_copyFrom_136 : decode cX0_copyFrom 136 = .ok (.getfield 40, 3) := by decide +kernel
theorem dX0_copyFrom_139 : decode cX0_copyFrom 139 = .ok (.putfield 40, 3) := by decide +kernel
theorem dX0_copyFrom_142 : decode cX0_copyFrom 142 = .ok (.aload_n 0, 1) := by decide +kernel
theorem dX0_copyFrom_143 : decode cX0_copyFrom 143 = .ok (.aload_n 1, 1) := by decide +kernel
theorem dX0_copyFrom_144 : decode cX0_copyFrom 144 = .ok (.getfield 43, 3) := by decide +kernel
theorem dX0_copyFrom_147 : decode cX0_copyFrom 147 = .ok (.putfield 43, 3) := by decide +kernel
theorem dX0_copyFrom_150 : decode cX0_copyFrom 150 = .ok (.aload_n 0, 1) := by decide +kernel
theorem dX0_copyFrom_151 : decode cX0_copyFrom 151 = .ok (.aload_n 1, 1) := by decide +kernel
theorem dX0_copyFrom_152 : decode cX0_copyFrom 152 = .ok (.getfield 46, 3) := by decide +kernel
theorem dX0_copyFrom_155 : decode cX0_copyFrom 155 = .ok (.putfield 46, 3) := by decide +kernel
theorem dX0_copyFrom_158 : decode cX0_copyFrom 158 = .ok (.aload_n 0, 1) := by decide +kernel
theorem dX0_copyFrom_159 : decode cX0_copyFrom 159 = .ok (.aload_n 1, 1) := by decide +kernel
theorem dX0_copyFrom_160 : decode cX0_copyFrom 160 = .ok (.getfield 49, 3) := by decide +kernel
theorem dX0_copyFrom_163 : decode cX0_copyFrom 163 = .ok (.putfield 49, 3) := by decide +kernel
theorem dX0_copyFrom_166 : decode cX0_copyFrom 166 = .ok (.return_, 1) := by decide +kernel
theorem dX0_inRange_0 : decode cX0_inRange 0 = .ok (.iload_n 0, 1) := by decide +kernel
theorem dX0_inRange_1 : decode cX0_inRange 1 = .ok (.ifCond .lt 31, 3) := by decide +kernel
theorem dX0_inRange_4 : decode cX0_inRange 4 = .ok (.iload_n 0, 1) := by decide +kernel
theorem dX0_inRange_5 : decode cX0_inRange 5 = .ok (.bipush 11, 2) := by decide +kernel
theorem dX0_inRange_7 : decode cX0_inRange 7 = .ok (.if_icmp .ge 25, 3) := by decide +kernel
theorem dX0_inRange_10 : decode cX0_inRange 10 = .ok (.iload_n 1, 1) := by decide +kernel
theorem dX0_inRange_11 : decode cX0_inRange 11 = .ok (.getstatic 79, 3) := by decide +kernel
theorem dX0_inRange_14 : decode cX0_inRange 14 = .ok (.iload_n 0, 1) := by decide +kernel
theorem dX0_inRange_15 : decode cX0_inRange 15 = .ok (.iaload, 1) := by decide +kernel
theorem dX0_inRange_16 : decode cX0_inRange 16 = .ok (.if_icmp .lt 16, 3) := by decide +kernel
theorem dX0_inRange_19 : decode cX0_inRange 19 = .ok (.iload_n 1, 1) := by decide +kernel
theorem dX0_inRange_20 : decode cX0_inRange 20 = .ok (.getstatic 82, 3) := by decide +kernel
theorem dX0_inRange_23 : decode cX0_inRange 23 = .ok (.iload_n 0, 1) := by decide +kernel
theorem dX0_inRange_24 : decode cX0_inRange 24 = .ok (.iaload, 1) := by decide +kernel
theorem dX0_inRange_25 : decode cX0_inRange 25 = .ok (.if_icmp .gt 7, 3) := by decide +kernel
theorem dX0_inRange_28 : decode cX0_inRange 28 = .ok (.iconst 1, 1) := by decide +kernel
theorem dX0_inRange_29 : decode cX0_inRange 29 = .ok (.goto 4, 3) := by decide +kernel
theorem dX0_inRange_32 : decode cX0_inRange 32 = .ok (.iconst 0, 1) := by decide +kernel
theorem dX0_inRange_33 : decode cX0_inRange 33 = .ok (.ireturn, 1) := by decide +kernel
theorem dX0_agrees_0 : decode cX0_agrees 0 = .ok (.iload_n 1, 1) := by decide +kernel
theorem dX0_agrees_1 : decode cX0_agrees 1 = .ok (.bipush 11, 2) := by decide +kernel
theorem dX0_agrees_3 : decode cX0_agrees 3 = .ok (.imul, 1) := by decide +kernel
theorem dX0_agrees_4 : decode cX0_agrees 4 = .ok (.istore 4, 2) := by decide +kernel
theorem dX0_agrees_6 : decode cX0_agrees 6 = .ok (.iload_n 2, 1) := by decide +kernel
theorem dX0_agrees_7 : decode cX0_agrees 7 = .ok (.tableswitch 118 0 6 #[41, 118, 118, 60, 118, 79, 99], 41) := by decide +kernel
theorem dX0_agrees_48 : decode cX0_agrees 48 = .ok (.aload_n 0, 1) := by decide +kernel
theorem dX0_agrees_49 : decode cX0_agrees 49 = .ok (.getfield 9, 3) := by decide +kernel
theorem dX0_agrees_52 : decode cX0_agrees 52 = .ok (.iload 4, 2) := by decide +kernel
theorem dX0_agrees_54 : decode cX0_agrees 54 = .ok (.iconst 3, 1) := by decide +kernel
theorem dX0_agrees_55 : decode cX0_agrees 55 = .ok (.iadd, 1) := by decide +kernel
theorem dX0_agrees_56 : decode cX0_agrees 56 = .ok (.iaload, 1) := by decide +kernel
theorem dX0_agrees_57 : decode cX0_agrees 57 = .ok (.iload_n 3, 1) := by decide +kernel
theorem dX0_agrees_58 : decode cX0_agrees 58 = .ok (.if_icmp .ge 7, 3) := by decide +kernel
theorem dX0_agrees_61 : decode cX0_agrees 61 = .ok (.iconst 1, 1) := by decide +kernel
theorem dX0_agrees_62 : decode cX0_agrees 62 = .ok (.goto 4, 3) := by decide +kernel
theorem dX0_agrees_65 : decode cX0_agrees 65 = .ok (.iconst 0, 1) := by decide +kernel
theorem dX0_agrees_66 : decode cX0_agrees 66 = .ok (.ireturn, 1) := by decide +kernel
theorem dX0_agrees_67 : decode cX0_agrees 67 = .ok (.iload_n 3, 1) := by decide +kernel
theorem dX0_agrees_68 : decode cX0_agrees 68 = .ok (.aload_n 0, 1) := by decide +kernel
theorem dX0_agrees_69 : decode cX0_agrees 69 = .ok (.getfield 9, 3) := by decide +kernel
theorem dX0_agrees_72 : decode cX0_agrees 72 = .ok (.iload 4, 2) := by decide +kernel
theorem dX0_agrees_74 : decode cX0_agrees 74 = .ok (.iconst 0, 1) := by decide +kernel
theorem dX0_agrees_75 : decode cX0_agrees 75 = .ok (.iadd, 1) := by decide +kernel
theorem dX0_agrees_76 : decode cX0_agrees 76 = .ok (.iaload, 1) := by decide +kernel
theorem dX0_agrees_77 : decode cX0_agrees 77 = .ok (.if_icmp .ge 7, 3) := by decide +kernel
theorem dX0_agrees_80 : decode cX0_agrees 80 = .ok (.iconst 1, 1) := by decide +kernel
theorem dX0_agrees_81 : decode cX0_agrees 81 = .ok (.goto 4, 3) := by decide +kernel
theorem dX0_agrees_84 : decode cX0_agrees 84 = .ok (.iconst 0, 1) := by decide +kernel
theorem dX0_agrees_85 : decode cX0_agrees 85 = .ok (.ireturn, 1) := by decide +kernel
theorem dX0_agrees_86 : decode cX0_agrees 86 = .ok (.iload_n 3, 1) := by decide +kernel
theorem dX0_agrees_87 : decode cX0_agrees 87 = .ok (.aload_n 0, 1) := by decide +kernel
theorem dX0_agrees_88 : decode cX0_agrees 88 = .ok (.getfield 9, 3) := by decide +kernel
theorem dX0_agrees_91 : decode cX0_agrees 91 = .ok (.iload 4, 2) := by decide +kernel
theorem dX0_agrees_93 : decode cX0_agrees 93 = .ok (.bipush 6, 2) := by decide +kernel
theorem dX0_agrees_95 : decode cX0_agrees 95 = .ok (.iadd, 1) := by decide +kernel
theorem dX0_agrees_96 : decode cX0_agrees 96 = .ok (.iaload, 1) := by decide +kernel
theorem dX0_agrees_97 : decode cX0_agrees 97 = .ok (.if_icmp .gt 7, 3) := by decide +kernel
theorem dX0_agrees_100 : decode cX0_agrees 100 = .ok (.iconst 1, 1) := by decide +kernel
theorem dX0_agrees_101 : decode cX0_agrees 101 = .ok (.goto 4, 3) := by decide +kernel
theorem dX0_agrees_104 : decode cX0_agrees 104 = .ok (.iconst 0, 1) := by decide +kernel
theorem dX0_agrees_105 : decode cX0_agrees 105 = .ok (.ireturn, 1) := by decide +kernel
theorem dX0_agrees_106 : decode cX0_agrees 106 = .ok (.aload_n 0, 1) := by decide +kernel
theorem dX0_agrees_107 : decode cX0_agrees 107 = .ok (.getfield 9, 3) := by decide +kernel
theorem dX0_agrees_110 : decode cX0_agrees 110 = .ok (.iload 4, 2) := by decide +kernel
theorem dX0_agrees_112 : decode cX0_agrees 112 = .ok (.iconst 5, 1) := by decide +kernel
theorem dX0_agrees_113 : decode cX0_agrees 113 = .ok (.iadd, 1) := by decide +kernel
theorem dX0_agrees_114 : decode cX0_agrees 114 = .ok (.iaload, 1) := by decide +kernel
theorem dX0_agrees_115 : decode cX0_agrees 115 = .ok (.iload_n 3, 1) := by decide +kernel
theorem dX0_agrees_116 : decode cX0_agrees 116 = .ok (.if_icmp .gt 7, 3) := by decide +kernel
theorem dX0_agrees_119 : decode cX0_agrees 119 = .ok (.iconst 1, 1) := by decide +kernel
theorem dX0_agrees_120 : decode cX0_agrees 120 = .ok (.goto 4, 3) := by decide +kernel
theorem dX0_agrees_123 : decode cX0_agrees 123 = .ok (.iconst 0, 1) := by decide +kernel
theorem dX0_agrees_124 : decode cX0_agrees 124 = .ok (.ireturn, 1) := by decide +kernel
theorem dX0_agrees_125 : decode cX0_agrees 125 = .ok (.iconst 1, 1) := by decide +kernel
theorem dX0_agrees_126 : decode cX0_agrees 126 = .ok (.ireturn, 1) := by decide +kernel
theorem dX0_isSeen_0 : decode cX0_isSeen 0 = .ok (.aload_n 0, 1) := by decide +kernel
theorem dX0_isSeen_1 : decode cX0_isSeen 1 = .ok (.getfield 49, 3) := by decide +kernel
theorem dX0_isSeen_4 : decode cX0_isSeen 4 = .ok (.iconst (-1), 1) := by decide +kernel
theorem dX0_isSeen_5 : decode cX0_isSeen 5 = .ok (.if_icmp .eq 11, 3) := by decide +kernel
theorem dX0_isSeen_8 : decode cX0_isSeen 8 = .ok (.iload_n 1, 1) := by decide +kernel
theorem dX0_isSeen_9 : decode cX0_isSeen 9 = .ok (.aload_n 0, 1) := by decide +kernel
theorem dX0_isSeen_10 : decode cX0_isSeen 10 = .ok (.getfield 49, 3) := by decide +kernel
theorem dX0_isSeen_13 : decode cX0_isSeen 13 = .ok (.if_icmp .gt 7, 3) := by decide +kernel
theorem dX0_isSeen_16 : decode cX0_isSeen 16 = .ok (.iconst 1, 1) := by decide +kernel
theorem dX0_isSeen_17 : decode cX0_isSeen 17 = .ok (.goto 4, 3) := by decide +kernel
theorem dX0_isSeen_20 : decode cX0_isSeen 20 = .ok (.iconst 0, 1) := by decide +kernel
theorem dX0_isSeen_21 : decode cX0_isSeen 21 = .ok (.ireturn, 1) := by decide +kernel
theorem dX0_write_0 : decode cX0_write 0 = .ok (.aload_n 0, 1) := by decide +kernel
theorem dX0_write_1 : decode cX0_write 1 = .ok (.getfield 43, 3) := by decide +kernel
theorem dX0_write_4 : decode cX0_write 4 = .ok (.istore 4, 2) := by decide +kernel
theorem dX0_write_6 : decode cX0_write 6 = .ok (.iload 4, 2) := by decide +kernel
theorem dX0_write_8 : decode cX0_write 8 = .ok (.ifCond .lt 11, 3) := by decide +kernel
theorem dX0_write_11 : decode cX0_write 11 = .ok (.iload 4, 2) := by decide +kernel
theorem dX0_write_13 : decode cX0_write 13 = .ok (.sipush 400, 3) := by decide +kernel
theorem dX0_write_16 : decode cX0_write 16 = .ok (.if_icmp .lt 4, 3) := by decide +kernel
theorem dX0_write_19 : decode cX0_write 19 = .ok (.return_, 1) := by decide +kernel
theorem dX0_write_20 : decode cX0_write 20 = .ok (.aload_n 0, 1) := by decide +kernel
theorem dX0_write_21 : decode cX0_write 21 = .ok (.getfield 24, 3) := by decide +kernel
theorem dX0_write_24 : decode cX0_write 24 = .ok (.iload 4, 2) := by decide +kernel
theorem dX0_write_26 : decode cX0_write 26 = .ok (.aload_n 0, 1) := by decide +kernel
theorem dX0_write_27 : decode cX0_write 27 = .ok (.getfield 46, 3) := by decide +kernel
theorem dX0_write_30 : decode cX0_write 30 = .ok (.iastore, 1) := by decide +kernel
theorem dX0_write_31 : decode cX0_write 31 = .ok (.aload_n 0, 1) := by decide +kernel
theorem dX0_write_32 : decode cX0_write 32 = .ok (.getfield 27, 3) := by decide +kernel
theorem dX0_write_35 : decode cX0_write 35 = .ok (.iload 4, 2) := by decide +kernel
theorem dX0_write_37 : decode cX0_write 37 = .ok (.iload_n 1, 1) := by decide +kernel
theorem dX0_write_38 : decode cX0_write 38 = .ok (.iastore, 1) := by decide +kernel
theorem dX0_write_39 : decode cX0_write 39 = .ok (.aload_n 0, 1) := by decide +kernel
theorem dX0_write_40 : decode cX0_write 40 = .ok (.getfield 30, 3) := by decide +kernel
theorem dX0_write_43 : decode cX0_write 43 = .ok (.iload 4, 2) := by decide +kernel
theorem dX0_write_45 : decode cX0_write 45 = .ok (.iload_n 2, 1) := by decide +kernel
theorem dX0_write_46 : decode cX0_write 46 = .ok (.iastore, 1) := by decide +kernel
theorem dX0_write_47 : decode cX0_write 47 = .ok (.aload_n 0, 1) := by decide +kernel
theorem dX0_write_48 : decode cX0_write 48 = .ok (.getfield 33, 3) := by decide +kernel
theorem dX0_write_51 : decode cX0_write 51 = .ok (.iload 4, 2) := by decide +kernel
theorem dX0_write_53 : decode cX0_write 53 = .ok (.iload_n 3, 1) := by decide +kernel
theorem dX0_write_54 : decode cX0_write 54 = .ok (.iastore, 1) := by decide +kernel
theorem dX0_write_55 : decode cX0_write 55 = .ok (.aload_n 0, 1) := by decide +kernel
theorem dX0_write_56 : decode cX0_write 56 = .ok (.dup, 1) := by decide +kernel
theorem dX0_write_57 : decode cX0_write 57 = .ok (.getfield 43, 3) := by decide +kernel
theorem dX0_write_60 : decode cX0_write 60 = .ok (.iconst 1, 1) := by decide +kernel
theorem dX0_write_61 : decode cX0_write 61 = .ok (.iadd, 1) := by decide +kernel
theorem dX0_write_62 : decode cX0_write 62 = .ok (.putfield 43, 3) := by decide +kernel
theorem dX0_write_65 : decode cX0_write 65 = .ok (.aload_n 0, 1) := by decide +kernel
theorem dX0_write_66 : decode cX0_write 66 = .ok (.aload_n 0, 1) := by decide +kernel
theorem dX0_write_67 : decode cX0_write 67 = .ok (.getfield 9, 3) := by decide +kernel
theorem dX0_write_70 : decode cX0_write 70 = .ok (.iload 4, 2) := by decide +kernel
theorem dX0_write_72 : decode cX0_write 72 = .ok (.invokevirtual 85, 3) := by decide +kernel
theorem dX0_write_75 : decode cX0_write 75 = .ok (.aload_n 0, 1) := by decide +kernel
theorem dX0_write_76 : decode cX0_write 76 = .ok (.aload_n 0, 1) := by decide +kernel
theorem dX0_write_77 : decode cX0_write 77 = .ok (.getfield 46, 3) := by decide +kernel
theorem dX0_write_80 : decode cX0_write 80 = .ok (.invokevirtual 64, 3) := by decide +kernel
theorem dX0_write_83 : decode cX0_write 83 = .ok (.ifCond .eq 9, 3) := by decide +kernel
theorem dX0_write_86 : decode cX0_write 86 = .ok (.aload_n 0, 1) := by decide +kernel
theorem dX0_write_87 : decode cX0_write 87 = .ok (.iload 4, 2) := by decide +kernel
theorem dX0_write_89 : decode cX0_write 89 = .ok (.invokevirtual 68, 3) := by decide +kernel
theorem dX0_write_92 : decode cX0_write 92 = .ok (.return_, 1) := by decide +kernel
theorem dX0_see_0 : decode cX0_see 0 = .ok (.aload_n 0, 1) := by decide +kernel
theorem dX0_see_1 : decode cX0_see 1 = .ok (.aload_n 0, 1) := by decide +kernel
theorem dX0_see_2 : decode cX0_see 2 = .ok (.getfield 15, 3) := by decide +kernel
theorem dX0_see_5 : decode cX0_see 5 = .ok (.iload_n 1, 1) := by decide +kernel
theorem dX0_see_6 : decode cX0_see 6 = .ok (.invokevirtual 85, 3) := by decide +kernel
theorem dX0_see_9 : decode cX0_see 9 = .ok (.aload_n 0, 1) := by decide +kernel
theorem dX0_see_10 : decode cX0_see 10 = .ok (.getfield 30, 3) := by decide +kernel
theorem dX0_see_13 : decode cX0_see 13 = .ok (.iload_n 1, 1) := by decide +kernel
theorem dX0_see_14 : decode cX0_see 14 = .ok (.iaload, 1) := by decide +kernel
theorem dX0_see_15 : decode cX0_see 15 = .ok (.iconst (-1), 1) := by decide +kernel
theorem dX0_see_16 : decode cX0_see 16 = .ok (.if_icmp .ne 15, 3) := by decide +kernel
theorem dX0_see_19 : decode cX0_see 19 = .ok (.aload_n 0, 1) := by decide +kernel
theorem dX0_see_20 : decode cX0_see 20 = .ok (.aload_n 0, 1) := by decide +kernel
theorem dX0_see_21 : decode cX0_see 21 = .ok (.getfield 27, 3) := by decide +kernel
theorem dX0_see_24 : decode cX0_see 24 = .ok (.iload_n 1, 1) := by decide +kernel
theorem dX0_see_25 : decode cX0_see 25 = .ok (.iaload, 1) := by decide +kernel
theorem dX0_see_26 : decode cX0_see 26 = .ok (.iconst 1, 1) := by decide +kernel
theorem dX0_see_27 : decode cX0_see 27 = .ok (.iadd, 1) := by decide +kernel
theorem dX0_see_28 : decode cX0_see 28 = .ok (.putfield 40, 3) := by decide +kernel
theorem dX0_see_31 : decode cX0_see 31 = .ok (.return_, 1) := by decide +kernel
theorem dX0_apply_0 : decode cX0_apply 0 = .ok (.aload_n 0, 1) := by decide +kernel
theorem dX0_apply_1 : decode cX0_apply 1 = .ok (.getfield 27, 3) := by decide +kernel
theorem dX0_apply_4 : decode cX0_apply 4 = .ok (.iload_n 2, 1) := by decide +kernel
theorem dX0_apply_5 : decode cX0_apply 5 = .ok (.iaload, 1) := by decide +kernel
theorem dX0_apply_6 : decode cX0_apply 6 = .ok (.istore_n 3, 1) := by decide +kernel
theorem dX0_apply_7 : decode cX0_apply 7 = .ok (.aload_n 0, 1) := by decide +kernel
theorem dX0_apply_8 : decode cX0_apply 8 = .ok (.getfield 30, 3) := by decide +kernel
theorem dX0_apply_11 : decode cX0_apply 11 = .ok (.iload_n 2, 1) := by decide +kernel
theorem dX0_apply_12 : decode cX0_apply 12 = .ok (.iaload, 1) := by decide +kernel
theorem dX0_apply_13 : decode cX0_apply 13 = .ok (.istore 4, 2) := by decide +kernel
theorem dX0_apply_15 : decode cX0_apply 15 = .ok (.iload_n 3, 1) := by decide +kernel
theorem dX0_apply_16 : decode cX0_apply 16 = .ok (.bipush 11, 2) := by decide +kernel
theorem dX0_apply_18 : decode cX0_apply 18 = .ok (.imul, 1) := by decide +kernel
theorem dX0_apply_19 : decode cX0_apply 19 = .ok (.istore 5, 2) := by decide +kernel
theorem dX0_apply_21 : decode cX0_apply 21 = .ok (.iload 4, 2) := by decide +kernel
theorem dX0_apply_23 : decode cX0_apply 23 = .ok (.ifCond .lt 24, 3) := by decide +kernel
theorem dX0_apply_26 : decode cX0_apply 26 = .ok (.iload 4, 2) := by decide +kernel
theorem dX0_apply_28 : decode cX0_apply 28 = .ok (.bipush 11, 2) := by decide +kernel
theorem dX0_apply_30 : decode cX0_apply 30 = .ok (.if_icmp .ge 17, 3) := by decide +kernel
theorem dX0_apply_33 : decode cX0_apply 33 = .ok (.aload_n 1, 1) := by decide +kernel
theorem dX0_apply_34 : decode cX0_apply 34 = .ok (.iload 5, 2) := by decide +kernel
theorem dX0_apply_36 : decode cX0_apply 36 = .ok (.iload 4, 2) := by decide +kernel
theorem dX0_apply_38 : decode cX0_apply 38 = .ok (.iadd, 1) := by decide +kernel
theorem dX0_apply_39 : decode cX0_apply 39 = .ok (.aload_n 0, 1) := by decide +kernel
theorem dX0_apply_40 : decode cX0_apply 40 = .ok (.getfield 33, 3) := by decide +kernel
theorem dX0_apply_43 : decode cX0_apply 43 = .ok (.iload_n 2, 1) := by decide +kernel
theorem dX0_apply_44 : decode cX0_apply 44 = .ok (.iaload, 1) := by decide +kernel
theorem dX0_apply_45 : decode cX0_apply 45 = .ok (.iastore, 1) := by decide +kernel
theorem dX0_apply_46 : decode cX0_apply 46 = .ok (.return_, 1) := by decide +kernel
theorem dX0_apply_47 : decode cX0_apply 47 = .ok (.iconst 0, 1) := by decide +kernel
theorem dX0_apply_48 : decode cX0_apply 48 = .ok (.istore 6, 2) := by decide +kernel
theorem dX0_apply_50 : decode cX0_apply 50 = .ok (.iload 6, 2) := by decide +kernel
theorem dX0_apply_52 : decode cX0_apply 52 = .ok (.bipush 11, 2) := by decide +kernel
theorem dX0_apply_54 : decode cX0_apply 54 = .ok (.if_icmp .ge 17, 3) := by decide +kernel
theorem dX0_apply_57 : decode cX0_apply 57 = .ok (.aload_n 1, 1) := by decide +kernel
theorem dX0_apply_58 : decode cX0_apply 58 = .ok (.iload 5, 2) := by decide +kernel
theorem dX0_apply_60 : decode cX0_apply 60 = .ok (.iload 6, 2) := by decide +kernel
theorem dX0_apply_62 : decode cX0_apply 62 = .ok (.iadd, 1) := by decide +kernel
theorem dX0_apply_63 : decode cX0_apply 63 = .ok (.iconst 0, 1) := by decide +kernel
theorem dX0_apply_64 : decode cX0_apply 64 = .ok (.iastore, 1) := by decide +kernel
theorem dX0_apply_65 : decode cX0_apply 65 = .ok (.iinc 6 1, 3) := by decide +kernel
theorem dX0_apply_68 : decode cX0_apply 68 = .ok (.goto (-18), 3) := by decide +kernel
theorem dX0_apply_71 : decode cX0_apply 71 = .ok (.aload_n 1, 1) := by decide +kernel
theorem dX0_apply_72 : decode cX0_apply 72 = .ok (.iload 5, 2) := by decide +kernel
theorem dX0_apply_74 : decode cX0_apply 74 = .ok (.iconst 0, 1) := by decide +kernel
theorem dX0_apply_75 : decode cX0_apply 75 = .ok (.iadd, 1) := by decide +kernel
theorem dX0_apply_76 : decode cX0_apply 76 = .ok (.aload_n 0, 1) := by decide +kernel
theorem dX0_apply_77 : decode cX0_apply 77 = .ok (.getfield 33, 3) := by decide +kernel
theorem dX0_apply_80 : decode cX0_apply 80 = .ok (.iload_n 2, 1) := by decide +kernel
theorem dX0_apply_81 : decode cX0_apply 81 = .ok (.iaload, 1) := by decide +kernel
theorem dX0_apply_82 : decode cX0_apply 82 = .ok (.iastore, 1) := by decide +kernel
theorem dX0_apply_83 : decode cX0_apply 83 = .ok (.aload_n 1, 1) := by decide +kernel
theorem dX0_apply_84 : decode cX0_apply 84 = .ok (.iload 5, 2) := by decide +kernel
theorem dX0_apply_86 : decode cX0_apply 86 = .ok (.iconst 1, 1) := by decide +kernel
theorem dX0_apply_87 : decode cX0_apply 87 = .ok (.iadd, 1) := by decide +kernel
theorem dX0_apply_88 : decode cX0_apply 88 = .ok (.aload_n 0, 1) := by decide +kernel
theorem dX0_apply_89 : decode cX0_apply 89 = .ok (.getfield 18, 3) := by decide +kernel
theorem dX0_apply_92 : decode cX0_apply 92 = .ok (.iload_n 3, 1) := by decide +kernel
theorem dX0_apply_93 : decode cX0_apply 93 = .ok (.iaload, 1) := by decide +kernel
theorem dX0_apply_94 : decode cX0_apply 94 = .ok (.iastore, 1) := by decide +kernel
theorem dX0_apply_95 : decode cX0_apply 95 = .ok (.aload_n 1, 1) := by decide +kernel
theorem dX0_apply_96 : decode cX0_apply 96 = .ok (.iload 5, 2) := by decide +kernel
theorem dX0_apply_98 : decode cX0_apply 98 = .ok (.iconst 4, 1) := by decide +kernel
theorem dX0_apply_99 : decode cX0_apply 99 = .ok (.iadd, 1) := by decide +kernel
theorem dX0_apply_100 : decode cX0_apply 100 = .ok (.aload_n 0, 1) := by decide +kernel
theorem dX0_apply_101 : decode cX0_apply 101 = .ok (.getfield 21, 3) := by decide +kernel
theorem dX0_apply_104 : decode cX0_apply 104 = .ok (.iload_n 3, 1) := by decide +kernel
theorem dX0_apply_105 : decode cX0_apply 105 = .ok (.iaload, 1) := by decide +kernel
theorem dX0_apply_106 : decode cX0_apply 106 = .ok (.iastore, 1) := by decide +kernel
theorem dX0_apply_107 : decode cX0_apply 107 = .ok (.aload_n 1, 1) := by decide +kernel
theorem dX0_apply_108 : decode cX0_apply 108 = .ok (.iload 5, 2) := by decide +kernel
theorem dX0_apply_110 : decode cX0_apply 110 = .ok (.iconst 5, 1) := by decide +kernel
theorem dX0_apply_111 : decode cX0_apply 111 = .ok (.iadd, 1) := by decide +kernel
theorem dX0_apply_112 : decode cX0_apply 112 = .ok (.sipush (-3000), 3) := by decide +kernel
theorem dX0_apply_115 : decode cX0_apply 115 = .ok (.iastore, 1) := by decide +kernel
theorem dX0_apply_116 : decode cX0_apply 116 = .ok (.aload_n 1, 1) := by decide +kernel
theorem dX0_apply_117 : decode cX0_apply 117 = .ok (.iload 5, 2) := by decide +kernel
theorem dX0_apply_119 : decode cX0_apply 119 = .ok (.bipush 6, 2) := by decide +kernel
theorem dX0_apply_121 : decode cX0_apply 121 = .ok (.iadd, 1) := by decide +kernel
theorem dX0_apply_122 : decode cX0_apply 122 = .ok (.sipush 1900, 3) := by decide +kernel
theorem dX0_apply_125 : decode cX0_apply 125 = .ok (.iastore, 1) := by decide +kernel
theorem dX0_apply_126 : decode cX0_apply 126 = .ok (.aload_n 1, 1) := by decide +kernel
theorem dX0_apply_127 : decode cX0_apply 127 = .ok (.iload 5, 2) := by decide +kernel
theorem dX0_apply_129 : decode cX0_apply 129 = .ok (.bipush 9, 2) := by decide +kernel
theorem dX0_apply_131 : decode cX0_apply 131 = .ok (.iadd, 1) := by decide +kernel
theorem dX0_apply_132 : decode cX0_apply 132 = .ok (.iconst 1, 1) := by decide +kernel
theorem dX0_apply_133 : decode cX0_apply 133 = .ok (.iastore, 1) := by decide +kernel
theorem dX0_apply_134 : decode cX0_apply 134 = .ok (.return_, 1) := by decide +kernel
theorem dX1_init_0 : decode cX1_init 0 = .ok (.aload_n 0, 1) := by decide +kernel
theorem dX1_init_1 : decode cX1_init 1 = .ok (.invokespecial 3, 3) := by decide +kernel
theorem dX1_init_4 : decode cX1_init 4 = .ok (.aload_n 0, 1) := by decide +kernel
theorem dX1_init_5 : decode cX1_init 5 = .ok (.bipush 63, 2) := by decide +kernel
theorem dX1_init_7 : decode cX1_init 7 = .ok (.putfield 9, 3) := by decide +kernel
theorem dX1_init_10 : decode cX1_init 10 = .ok (.aload_n 0, 1) := by decide +kernel
theorem dX1_init_11 : decode cX1_init 11 = .ok (.bipush 31, 2) := by decide +kernel
theorem dX1_init_13 : decode cX1_init 13 = .ok (.putfield 15, 3) := by decide +kernel
theorem dX1_init_16 : decode cX1_init 16 = .ok (.aload_n 0, 1) := by decide +kernel
theorem dX1_init_17 : decode cX1_init 17 = .ok (.sipush (-3000), 3) := by decide +kernel
theorem dX1_init_20 : decode cX1_init 20 = .ok (.putfield 18, 3) := by decide +kernel
theorem dX1_init_23 : decode cX1_init 23 = .ok (.aload_n 0, 1) := by decide +kernel
theorem dX1_init_24 : decode cX1_init 24 = .ok (.sipush 1900, 3) := by decide +kernel
theorem dX1_init_27 : decode cX1_init 27 = .ok (.putfield 21, 3) := by decide +kernel
theorem dX1_init_30 : decode cX1_init 30 = .ok (.aload_n 0, 1) := by decide +kernel
theorem dX1_init_31 : decode cX1_init 31 = .ok (.iconst 0, 1) := by decide +kernel
theorem dX1_init_32 : decode cX1_init 32 = .ok (.putfield 24, 3) := by decide +kernel
theorem dX1_init_35 : decode cX1_init 35 = .ok (.return_, 1) := by decide +kernel
theorem dX1_change_0 : decode cX1_change 0 = .ok (.iload_n 3, 1) := by decide +kernel
theorem dX1_change_1 : decode cX1_change 1 = .ok (.sipush (-3000), 3) := by decide +kernel
theorem dX1_change_4 : decode cX1_change 4 = .ok (.if_icmp .lt 28, 3) := by decide +kernel
theorem dX1_change_7 : decode cX1_change 7 = .ok (.iload 4, 2) := by decide +kernel
theorem dX1_change_9 : decode cX1_change 9 = .ok (.sipush 1900, 3) := by decide +kernel
theorem dX1_change_12 : decode cX1_change 12 = .ok (.if_icmp .gt 20, 3) := by decide +kernel
theorem dX1_change_15 : decode cX1_change 15 = .ok (.iload_n 3, 1) := by decide +kernel
theorem dX1_change_16 : decode cX1_change 16 = .ok (.iload 4, 2) := by decide +kernel
theorem dX1_change_18 : decode cX1_change 18 = .ok (.if_icmp .gt 14, 3) := by decide +kernel
theorem dX1_change_21 : decode cX1_change 21 = .ok (.iload 5, 2) := by decide +kernel
theorem dX1_change_23 : decode cX1_change 23 = .ok (.ifCond .lt 9, 3) := by decide +kernel
theorem dX1_change_26 : decode cX1_change 26 = .ok (.iload 5, 2) := by decide +kernel
theorem dX1_change_28 : decode cX1_change 28 = .ok (.iconst 2, 1) := by decide +kernel
theorem dX1_change_29 : decode cX1_change 29 = .ok (.if_icmp .le 5, 3) := by decide +kernel
theorem dX1_change_32 : decode cX1_change 32 = .ok (.iconst 0, 1) := by decide +kernel
theorem dX1_change_33 : decode cX1_change 33 = .ok (.ireturn, 1) := by decide +kernel
theorem dX1_change_34 : decode cX1_change 34 = .ok (.aload_n 0, 1) := by decide +kernel
theorem dX1_change_35 : decode cX1_change 35 = .ok (.iload_n 1, 1) := by decide +kernel
theorem dX1_change_36 : decode cX1_change 36 = .ok (.bipush 63, 2) := by decide +kernel
theorem dX1_change_38 : decode cX1_change 38 = .ok (.iand, 1) := by decide +kernel
theorem dX1_change_39 : decode cX1_change 39 = .ok (.putfield 9, 3) := by decide +kernel
theorem dX1_change_42 : decode cX1_change 42 = .ok (.aload_n 0, 1) := by decide +kernel
theorem dX1_change_43 : decode cX1_change 43 = .ok (.iload_n 2, 1) := by decide +kernel
theorem dX1_change_44 : decode cX1_change 44 = .ok (.bipush 31, 2) := by decide +kernel
theorem dX1_change_46 : decode cX1_change 46 = .ok (.iand, 1) := by decide +kernel
theorem dX1_change_47 : decode cX1_change 47 = .ok (.putfield 15, 3) := by decide +kernel
theorem dX1_change_50 : decode cX1_change 50 = .ok (.aload_n 0, 1) := by decide +kernel
theorem dX1_change_51 : decode cX1_change 51 = .ok (.iload_n 3, 1) := by decide +kernel
theorem dX1_change_52 : decode cX1_change 52 = .ok (.putfield 18, 3) := by decide +kernel
theorem dX1_change_55 : decode cX1_change 55 = .ok (.aload_n 0, 1) := by decide +kernel
theorem dX1_change_56 : decode cX1_change 56 = .ok (.iload 4, 2) := by decide +kernel
theorem dX1_change_58 : decode cX1_change 58 = .ok (.putfield 21, 3) := by decide +kernel
theorem dX1_change_61 : decode cX1_change 61 = .ok (.aload_n 0, 1) := by decide +kernel
theorem dX1_change_62 : decode cX1_change 62 = .ok (.iload 5, 2) := by decide +kernel
theorem dX1_change_64 : decode cX1_change 64 = .ok (.putfield 24, 3) := by decide +kernel
theorem dX1_change_67 : decode cX1_change 67 = .ok (.iconst 1, 1) := by decide +kernel
theorem dX1_change_68 : decode cX1_change 68 = .ok (.ireturn, 1) := by decide +kernel
theorem dX1_takes_0 : decode cX1_takes 0 = .ok (.aload_n 1, 1) := by decide +kernel
theorem dX1_takes_1 : decode cX1_takes 1 = .ok (.iload_n 2, 1) := by decide +kernel
theorem dX1_takes_2 : decode cX1_takes 2 = .ok (.bipush 9, 2) := by decide +kernel
theorem dX1_takes_4 : decode cX1_takes 4 = .ok (.invokevirtual 27, 3) := by decide +kernel
theorem dX1_takes_7 : decode cX1_takes 7 = .ok (.iconst 1, 1) := by decide +kernel
theorem dX1_takes_8 : decode cX1_takes 8 = .ok (.if_icmp .ne 82, 3) := by decide +kernel
theorem dX1_takes_11 : decode cX1_takes 11 = .ok (.aload_n 0, 1) := by decide +kernel
theorem dX1_takes_12 : decode cX1_takes 12 = .ok (.getfield 9, 3) := by decide +kernel
theorem dX1_takes_15 : decode cX1_takes 15 = .ok (.aload_n 1, 1) := by decide +kernel
theorem dX1_takes_16 : decode cX1_takes 16 = .ok (.iload_n 2, 1) := by decide +kernel
theorem dX1_takes_17 : decode cX1_takes 17 = .ok (.iconst 4, 1) := by decide +kernel
theorem dX1_takes_18 : decode cX1_takes 18 = .ok (.invokevirtual 27, 3) := by decide +kernel
theorem dX1_takes_21 : decode cX1_takes 21 = .ok (.ishr, 1) := by decide +kernel
theorem dX1_takes_22 : decode cX1_takes 22 = .ok (.iconst 1, 1) := by decide +kernel
theorem dX1_takes_23 : decode cX1_takes 23 = .ok (.iand, 1) := by decide +kernel
theorem dX1_takes_24 : decode cX1_takes 24 = .ok (.iconst 1, 1) := by decide +kernel
theorem dX1_takes_25 : decode cX1_takes 25 = .ok (.if_icmp .ne 65, 3) := by decide +kernel
theorem dX1_takes_28 : decode cX1_takes 28 = .ok (.aload_n 0, 1) := by decide +kernel
theorem dX1_takes_29 : decode cX1_takes 29 = .ok (.getfield 15, 3) := by decide +kernel
theorem dX1_takes_32 : decode cX1_takes 32 = .ok (.aload_n 1, 1) := by decide +kernel
theorem dX1_takes_33 : decode cX1_takes 33 = .ok (.iload_n 2, 1) := by decide +kernel
theorem dX1_takes_34 : decode cX1_takes 34 = .ok (.iconst 1, 1) := by decide +kernel
theorem dX1_takes_35 : decode cX1_takes 35 = .ok (.invokevirtual 27, 3) := by decide +kernel
theorem dX1_takes_38 : decode cX1_takes 38 = .ok (.ishr, 1) := by decide +kernel
theorem dX1_takes_39 : decode cX1_takes 39 = .ok (.iconst 1, 1) := by decide +kernel
theorem dX1_takes_40 : decode cX1_takes 40 = .ok (.iand, 1) := by decide +kernel
theorem dX1_takes_41 : decode cX1_takes 41 = .ok (.iconst 1, 1) := by decide +kernel
theorem dX1_takes_42 : decode cX1_takes 42 = .ok (.if_icmp .ne 48, 3) := by decide +kernel
theorem dX1_takes_45 : decode cX1_takes 45 = .ok (.aload_n 1, 1) := by decide +kernel
theorem dX1_takes_46 : decode cX1_takes 46 = .ok (.iload_n 2, 1) := by decide +kernel
theorem dX1_takes_47 : decode cX1_takes 47 = .ok (.iconst 5, 1) := by decide +kernel
theorem dX1_takes_48 : decode cX1_takes 48 = .ok (.invokevirtual 27, 3) := by decide +kernel
theorem dX1_takes_51 : decode cX1_takes 51 = .ok (.aload_n 0, 1) := by decide +kernel
theorem dX1_takes_52 : decode cX1_takes 52 = .ok (.getfield 21, 3) := by decide +kernel
theorem dX1_takes_55 : decode cX1_takes 55 = .ok (.if_icmp .gt 35, 3) := by decide +kernel
theorem dX1_takes_58 : decode cX1_takes 58 = .ok (.aload_n 1, 1) := by decide +kernel
theorem dX1_takes_59 : decode cX1_takes 59 = .ok (.iload_n 2, 1) := by decide +kernel
theorem dX1_takes_60 : decode cX1_takes 60 = .ok (.bipush 6, 2) := by decide +kernel
theorem dX1_takes_62 : decode cX1_takes 62 = .ok (.invokevirtual 27, 3) := by decide +kernel
theorem dX1_takes_65 : decode cX1_takes 65 = .ok (.aload_n 0, 1) := by decide +kernel
theorem dX1_takes_66 : decode cX1_takes 66 = .ok (.getfield 18, 3) := by decide +kernel
theorem dX1_takes_69 : decode cX1_takes 69 = .ok (.if_icmp .lt 21, 3) := by decide +kernel
theorem dX1_takes_72 : decode cX1_takes 72 = .ok (.aload_n 0, 1) := by decide +kernel
theorem dX1_takes_73 : decode cX1_takes 73 = .ok (.aload_n 1, 1) := by decide +kernel
theorem dX1_takes_74 : decode cX1_takes 74 = .ok (.iload_n 2, 1) := by decide +kernel
theorem dX1_takes_75 : decode cX1_takes 75 = .ok (.bipush 7, 2) := by decide +kernel
theorem dX1_takes_77 : decode cX1_takes 77 = .ok (.invokevirtual 27, 3) := by decide +kernel
theorem dX1_takes_80 : decode cX1_takes 80 = .ok (.invokevirtual 33, 3) := by decide +kernel
theorem dX1_takes_83 : decode cX1_takes 83 = .ok (.ifCond .eq 7, 3) := by decide +kernel
theorem dX1_takes_86 : decode cX1_takes 86 = .ok (.iconst 1, 1) := by decide +kernel
theorem dX1_takes_87 : decode cX1_takes 87 = .ok (.goto 4, 3) := by decide +kernel
theorem dX1_takes_90 : decode cX1_takes 90 = .ok (.iconst 0, 1) := by decide +kernel
theorem dX1_takes_91 : decode cX1_takes 91 = .ok (.ireturn, 1) := by decide +kernel
theorem dX1_copyFrom_0 : decode cX1_copyFrom 0 = .ok (.aload_n 0, 1) := by decide +kernel
theorem dX1_copyFrom_1 : decode cX1_copyFrom 1 = .ok (.aload_n 1, 1) := by decide +kernel
theorem dX1_copyFrom_2 : decode cX1_copyFrom 2 = .ok (.getfield 9, 3) := by decide +kernel
theorem dX1_copyFrom_5 : decode cX1_copyFrom 5 = .ok (.putfield 9, 3) := by decide +kernel
theorem dX1_copyFrom_8 : decode cX1_copyFrom 8 = .ok (.aload_n 0, 1) := by decide +kernel
theorem dX1_copyFrom_9 : decode cX1_copyFrom 9 = .ok (.aload_n 1, 1) := by decide +kernel
theorem dX1_copyFrom_10 : decode cX1_copyFrom 10 = .ok (.getfield 15, 3) := by decide +kernel
theorem dX1_copyFrom_13 : decode cX1_copyFrom 13 = .ok (.putfield 15, 3) := by decide +kernel
theorem dX1_copyFrom_16 : decode cX1_copyFrom 16 = .ok (.aload_n 0, 1) := by decide +kernel
theorem dX1_copyFrom_17 : decode cX1_copyFrom 17 = .ok (.aload_n 1, 1) := by decide +kernel
theorem dX1_copyFrom_18 : decode cX1_copyFrom 18 = .ok (.getfield 18, 3) := by decide +kernel
theorem dX1_copyFrom_21 : decode cX1_copyFrom 21 = .ok (.putfield 18, 3) := by decide +kernel
theorem dX1_copyFrom_24 : decode cX1_copyFrom 24 = .ok (.aload_n 0, 1) := by decide +kernel
theorem dX1_copyFrom_25 : decode cX1_copyFrom 25 = .ok (.aload_n 1, 1) := by decide +kernel
theorem dX1_copyFrom_26 : decode cX1_copyFrom 26 = .ok (.getfield 21, 3) := by decide +kernel
theorem dX1_copyFrom_29 : decode cX1_copyFrom 29 = .ok (.putfield 21, 3) := by decide +kernel
theorem dX1_copyFrom_32 : decode cX1_copyFrom 32 = .ok (.aload_n 0, 1) := by decide +kernel
theorem dX1_copyFrom_33 : decode cX1_copyFrom 33 = .ok (.aload_n 1, 1) := by decide +kernel
theorem dX1_copyFrom_34 : decode cX1_copyFrom 34 = .ok (.getfield 24, 3) := by decide +kernel
theorem dX1_copyFrom_37 : decode cX1_copyFrom 37 = .ok (.putfield 24, 3) := by decide +kernel
theorem dX1_copyFrom_40 : decode cX1_copyFrom 40 = .ok (.return_, 1) := by decide +kernel
theorem dX1_takesMark_0 : decode cX1_takesMark 0 = .ok (.aload_n 0, 1) := by decide +kernel
theorem dX1_takesMark_1 : decode cX1_takesMark 1 = .ok (.getfield 24, 3) := by decide +kernel
theorem dX1_takesMark_4 : decode cX1_takesMark 4 = .ok (.ifCond .eq 28, 3) := by decide +kernel
theorem dX1_takesMark_7 : decode cX1_takesMark 7 = .ok (.aload_n 0, 1) := by decide +kernel
theorem dX1_takesMark_8 : decode cX1_takesMark 8 = .ok (.getfield 24, 3) := by decide +kernel
theorem dX1_takesMark_11 : decode cX1_takesMark 11 = .ok (.iconst 1, 1) := by decide +kernel
theorem dX1_takesMark_12 : decode cX1_takesMark 12 = .ok (.if_icmp .ne 7, 3) := by decide +kernel
theorem dX1_takesMark_15 : decode cX1_takesMark 15 = .ok (.iconst 1, 1) := by decide +kernel
theorem dX1_takesMark_16 : decode cX1_takesMark 16 = .ok (.goto 4, 3) := by decide +kernel
theorem dX1_takesMark_19 : decode cX1_takesMark 19 = .ok (.iconst 0, 1) := by decide +kernel
theorem dX1_takesMark_20 : decode cX1_takesMark 20 = .ok (.iload_n 1, 1) := by decide +kernel
theorem dX1_takesMark_21 : decode cX1_takesMark 21 = .ok (.ifCond .le 7, 3) := by decide +kernel
theorem dX1_takesMark_24 : decode cX1_takesMark 24 = .ok (.iconst 1, 1) := by decide +kernel
theorem dX1_takesMark_25 : decode cX1_takesMark 25 = .ok (.goto 4, 3) := by decide +kernel
theorem dX1_takesMark_28 : decode cX1_takesMark 28 = .ok (.iconst 0, 1) := by decide +kernel
theorem dX1_takesMark_29 : decode cX1_takesMark 29 = .ok (.if_icmp .ne 7, 3) := by decide +kernel
theorem dX1_takesMark_32 : decode cX1_takesMark 32 = .ok (.iconst 1, 1) := by decide +kernel
theorem dX1_takesMark_33 : decode cX1_takesMark 33 = .ok (.goto 4, 3) := by decide +kernel
theorem dX1_takesMark_36 : decode cX1_takesMark 36 = .ok (.iconst 0, 1) := by decide +kernel
theorem dX1_takesMark_37 : decode cX1_takesMark 37 = .ok (.ireturn, 1) := by decide +kernel
theorem dX2_whenNew_0 : decode cX2_whenNew 0 = .ok (.sipush (-500), 3) := by decide +kernel
theorem dX2_whenNew_3 : decode cX2_whenNew 3 = .ok (.sipush 1000, 3) := by decide +kernel
theorem dX2_whenNew_6 : decode cX2_whenNew 6 = .ok (.iload_n 1, 1) := by decide +kernel
theorem dX2_whenNew_7 : decode cX2_whenNew 7 = .ok (.invokestatic 9, 3) := by decide +kernel
theorem dX2_whenNew_10 : decode cX2_whenNew 10 = .ok (.invokestatic 15, 3) := by decide +kernel
theorem dX2_whenNew_13 : decode cX2_whenNew 13 = .ok (.istore_n 2, 1) := by decide +kernel
theorem dX2_whenNew_14 : decode cX2_whenNew 14 = .ok (.iconst 1, 1) := by decide +kernel
theorem dX2_whenNew_15 : decode cX2_whenNew 15 = .ok (.iload_n 0, 1) := by decide +kernel
theorem dX2_whenNew_16 : decode cX2_whenNew 16 = .ok (.iload_n 0, 1) := by decide +kernel
theorem dX2_whenNew_17 : decode cX2_whenNew 17 = .ok (.iload_n 2, 1) := by decide +kernel
theorem dX2_whenNew_18 : decode cX2_whenNew 18 = .ok (.imul, 1) := by decide +kernel
theorem dX2_whenNew_19 : decode cX2_whenNew 19 = .ok (.sipush 1000, 3) := by decide +kernel
theorem dX2_whenNew_22 : decode cX2_whenNew 22 = .ok (.idiv, 1) := by decide +kernel
theorem dX2_whenNew_23 : decode cX2_whenNew 23 = .ok (.iadd, 1) := by decide +kernel
theorem dX2_whenNew_24 : decode cX2_whenNew 24 = .ok (.invokestatic 15, 3) := by decide +kernel
theorem dX2_whenNew_27 : decode cX2_whenNew 27 = .ok (.ireturn, 1) := by decide +kernel
theorem dX2_off_0 : decode cX2_off 0 = .ok (.iload_n 0, 1) := by decide +kernel
theorem dX2_off_1 : decode cX2_off 1 = .ok (.iload_n 1, 1) := by decide +kernel
theorem dX2_off_2 : decode cX2_off 2 = .ok (.iload_n 2, 1) := by decide +kernel
theorem dX2_off_3 : decode cX2_off 3 = .ok (.iload_n 3, 1) := by decide +kernel
theorem dX2_off_4 : decode cX2_off 4 = .ok (.invokestatic 18, 3) := by decide +kernel
theorem dX2_off_7 : decode cX2_off 7 = .ok (.iload_n 3, 1) := by decide +kernel
theorem dX2_off_8 : decode cX2_off 8 = .ok (.imul, 1) := by decide +kernel
theorem dX2_off_9 : decode cX2_off 9 = .ok (.istore 4, 2) := by decide +kernel
theorem dX2_off_11 : decode cX2_off 11 = .ok (.iload 4, 2) := by decide +kernel
theorem dX2_off_13 : decode cX2_off 13 = .ok (.iload_n 0, 1) := by decide +kernel
theorem dX2_off_14 : decode cX2_off 14 = .ok (.if_icmp .ge 10, 3) := by decide +kernel
theorem dX2_off_17 : decode cX2_off 17 = .ok (.iload_n 0, 1) := by decide +kernel
theorem dX2_off_18 : decode cX2_off 18 = .ok (.iload 4, 2) := by decide +kernel
theorem dX2_off_20 : decode cX2_off 20 = .ok (.isub, 1) := by decide +kernel
theorem dX2_off_21 : decode cX2_off 21 = .ok (.goto 11, 3) := by decide +kernel
theorem dX2_off_24 : decode cX2_off 24 = .ok (.iconst 0, 1) := by decide +kernel
theorem dX2_off_25 : decode cX2_off 25 = .ok (.iload 4, 2) := by decide +kernel
theorem dX2_off_27 : decode cX2_off 27 = .ok (.iload_n 1, 1) := by decide +kernel
theorem dX2_off_28 : decode cX2_off 28 = .ok (.isub, 1) := by decide +kernel
theorem dX2_off_29 : decode cX2_off 29 = .ok (.invokestatic 15, 3) := by decide +kernel
theorem dX2_off_32 : decode cX2_off 32 = .ok (.istore 5, 2) := by decide +kernel
theorem dX2_off_34 : decode cX2_off 34 = .ok (.iload_n 3, 1) := by decide +kernel
theorem dX2_off_35 : decode cX2_off 35 = .ok (.iload 5, 2) := by decide +kernel
theorem dX2_off_37 : decode cX2_off 37 = .ok (.invokestatic 9, 3) := by decide +kernel
theorem dX2_off_40 : decode cX2_off 40 = .ok (.ireturn, 1) := by decide +kernel
theorem dX2_times_0 : decode cX2_times 0 = .ok (.iload_n 2, 1) := by decide +kernel
theorem dX2_times_1 : decode cX2_times 1 = .ok (.ifCond .le 5, 3) := by decide +kernel
theorem dX2_times_4 : decode cX2_times 4 = .ok (.iload_n 2, 1) := by decide +kernel
theorem dX2_times_5 : decode cX2_times 5 = .ok (.ireturn, 1) := by decide +kernel
theorem dX2_times_6 : decode cX2_times 6 = .ok (.iload_n 3, 1) := by decide +kernel
theorem dX2_times_7 : decode cX2_times 7 = .ok (.ifCond .le 9, 3) := by decide +kernel
theorem dX2_times_10 : decode cX2_times 10 = .ok (.iload_n 0, 1) := by decide +kernel
theorem dX2_times_11 : decode cX2_times 11 = .ok (.iload_n 3, 1) := by decide +kernel
theorem dX2_times_12 : decode cX2_times 12 = .ok (.idiv, 1) := by decide +kernel
theorem dX2_times_13 : decode cX2_times 13 = .ok (.goto 4, 3) := by decide +kernel
theorem dX2_times_16 : decode cX2_times 16 = .ok (.iconst 0, 1) := by decide +kernel
theorem dX2_times_17 : decode cX2_times 17 = .ok (.istore 4, 2) := by decide +kernel
theorem dX2_times_19 : decode cX2_times 19 = .ok (.iload 4, 2) := by decide +kernel
theorem dX2_times_21 : decode cX2_times 21 = .ok (.iconst 1, 1) := by decide +kernel
theorem dX2_times_22 : decode cX2_times 22 = .ok (.if_icmp .ge 5, 3) := by decide +kernel
theorem dX2_times_25 : decode cX2_times 25 = .ok (.iconst 1, 1) := by decide +kernel
theorem dX2_times_26 : decode cX2_times 26 = .ok (.ireturn, 1) := by decide +kernel
theorem dX2_times_27 : decode cX2_times 27 = .ok (.iload_n 0, 1) := by decide +kernel
theorem dX2_times_28 : decode cX2_times 28 = .ok (.iload 4, 2) := by decide +kernel
theorem dX2_times_30 : decode cX2_times 30 = .ok (.iload_n 3, 1) := by decide +kernel
theorem dX2_times_31 : decode cX2_times 31 = .ok (.imul, 1) := by decide +kernel
theorem dX2_times_32 : decode cX2_times 32 = .ok (.isub, 1) := by decide +kernel
theorem dX2_times_33 : decode cX2_times 33 = .ok (.istore 5, 2) := by decide +kernel
theorem dX2_times_35 : decode cX2_times 35 = .ok (.iload 4, 2) := by decide +kernel
theorem dX2_times_37 : decode cX2_times 37 = .ok (.iconst 1, 1) := by decide +kernel
theorem dX2_times_38 : decode cX2_times 38 = .ok (.iadd, 1) := by decide +kernel
theorem dX2_times_39 : decode cX2_times 39 = .ok (.iload_n 3, 1) := by decide +kernel
theorem dX2_times_40 : decode cX2_times 40 = .ok (.imul, 1) := by decide +kernel
theorem dX2_times_41 : decode cX2_times 41 = .ok (.iload_n 1, 1) := by decide +kernel
theorem dX2_times_42 : decode cX2_times 42 = .ok (.isub, 1) := by decide +kernel
theorem dX2_times_43 : decode cX2_times 43 = .ok (.istore 6, 2) := by decide +kernel
theorem dX2_times_45 : decode cX2_times 45 = .ok (.iload 5, 2) := by decide +kernel
theorem dX2_times_47 : decode cX2_times 47 = .ok (.iload 6, 2) := by decide +kernel
theorem dX2_times_49 : decode cX2_times 49 = .ok (.if_icmp .le 8, 3) := by decide +kernel
theorem dX2_times_52 : decode cX2_times 52 = .ok (.iload 5, 2) := by decide +kernel
theorem dX2_times_54 : decode cX2_times 54 = .ok (.ifCond .ne 8, 3) := by decide +kernel
theorem dX2_times_57 : decode cX2_times 57 = .ok (.iload 4, 2) := by decide +kernel
theorem dX2_times_59 : decode cX2_times 59 = .ok (.goto 7, 3) := by decide +kernel
theorem dX2_times_62 : decode cX2_times 62 = .ok (.iload 4, 2) := by decide +kernel
theorem dX2_times_64 : decode cX2_times 64 = .ok (.iconst 1, 1) := by decide +kernel
theorem dX2_times_65 : decode cX2_times 65 = .ok (.iadd, 1) := by decide +kernel
theorem dX2_times_66 : decode cX2_times 66 = .ok (.ireturn, 1) := by decide +kernel
theorem dX2_shortage_0 : decode cX2_shortage 0 = .ok (.iload_n 2, 1) := by decide +kernel
theorem dX2_shortage_1 : decode cX2_shortage 1 = .ok (.ifCond .le 15, 3) := by decide +kernel
theorem dX2_shortage_4 : decode cX2_shortage 4 = .ok (.iconst 2, 1) := by decide +kernel
theorem dX2_shortage_5 : decode cX2_shortage 5 = .ok (.iload_n 0, 1) := by decide +kernel
theorem dX2_shortage_6 : decode cX2_shortage 6 = .ok (.imul, 1) := by decide +kernel
theorem dX2_shortage_7 : decode cX2_shortage 7 = .ok (.iload_n 2, 1) := by decide +kernel
theorem dX2_shortage_8 : decode cX2_shortage 8 = .ok (.iadd, 1) := by decide +kernel
theorem dX2_shortage_9 : decode cX2_shortage 9 = .ok (.iconst 2, 1) := by decide +kernel
theorem dX2_shortage_10 : decode cX2_shortage 10 = .ok (.iload_n 2, 1) := by decide +kernel
theorem dX2_shortage_11 : decode cX2_shortage 11 = .ok (.imul, 1) := by decide +kernel
theorem dX2_shortage_12 : decode cX2_shortage 12 = .ok (.idiv, 1) := by decide +kernel
theorem dX2_shortage_13 : decode cX2_shortage 13 = .ok (.goto 4, 3) := by decide +kernel
theorem dX2_shortage_16 : decode cX2_shortage 16 = .ok (.iconst 0, 1) := by decide +kernel
theorem dX2_shortage_17 : decode cX2_shortage 17 = .ok (.istore_n 3, 1) := by decide +kernel
theorem dX2_shortage_18 : decode cX2_shortage 18 = .ok (.iload_n 1, 1) := by decide +kernel
theorem dX2_shortage_19 : decode cX2_shortage 19 = .ok (.ifCond .le 7, 3) := by decide +kernel
theorem dX2_shortage_22 : decode cX2_shortage 22 = .ok (.iload_n 1, 1) := by decide +kernel
theorem dX2_shortage_23 : decode cX2_shortage 23 = .ok (.goto 8, 3) := by decide +kernel
theorem dX2_shortage_26 : decode cX2_shortage 26 = .ok (.iconst 1, 1) := by decide +kernel
theorem dX2_shortage_27 : decode cX2_shortage 27 = .ok (.iload_n 3, 1) := by decide +kernel
theorem dX2_shortage_28 : decode cX2_shortage 28 = .ok (.invokestatic 15, 3) := by decide +kernel
theorem dX2_shortage_31 : decode cX2_shortage 31 = .ok (.istore 4, 2) := by decide +kernel
theorem dX2_shortage_33 : decode cX2_shortage 33 = .ok (.iconst 0, 1) := by decide +kernel
theorem dX2_shortage_34 : decode cX2_shortage 34 = .ok (.iload 4, 2) := by decide +kernel
theorem dX2_shortage_36 : decode cX2_shortage 36 = .ok (.iload_n 2, 1) := by decide +kernel
theorem dX2_shortage_37 : decode cX2_shortage 37 = .ok (.imul, 1) := by decide +kernel
theorem dX2_shortage_38 : decode cX2_shortage 38 = .ok (.iload_n 0, 1) := by decide +kernel
theorem dX2_shortage_39 : decode cX2_shortage 39 = .ok (.isub, 1) := by decide +kernel
theorem dX2_shortage_40 : decode cX2_shortage 40 = .ok (.invokestatic 15, 3) := by decide +kernel
theorem dX2_shortage_43 : decode cX2_shortage 43 = .ok (.ireturn, 1) := by decide +kernel
theorem dX2_luckyPlaces_0 : decode cX2_luckyPlaces 0 = .ok (.iload_n 1, 1) := by decide +kernel
theorem dX2_luckyPlaces_1 : decode cX2_luckyPlaces 1 = .ok (.iconst 2, 1) := by decide +kernel
theorem dX2_luckyPlaces_2 : decode cX2_luckyPlaces 2 = .ok (.iload_n 1, 1) := by decide +kernel
theorem dX2_luckyPlaces_3 : decode cX2_luckyPlaces 3 = .ok (.bipush 8, 2) := by decide +kernel
theorem dX2_luckyPlaces_5 : decode cX2_luckyPlaces 5 = .ok (.idiv, 1) := by decide +kernel
theorem dX2_luckyPlaces_6 : decode cX2_luckyPlaces 6 = .ok (.imul, 1) := by decide +kernel
theorem dX2_luckyPlaces_7 : decode cX2_luckyPlaces 7 = .ok (.iconst 1, 1) := by decide +kernel
theorem dX2_luckyPlaces_8 : decode cX2_luckyPlaces 8 = .ok (.iadd, 1) := by decide +kernel
theorem dX2_luckyPlaces_9 : decode cX2_luckyPlaces 9 = .ok (.iload_n 0, 1) := by decide +kernel
theorem dX2_luckyPlaces_10 : decode cX2_luckyPlaces 10 = .ok (.iadd, 1) := by decide +kernel
theorem dX2_luckyPlaces_11 : decode cX2_luckyPlaces 11 = .ok (.invokestatic 9, 3) := by decide +kernel
theorem dX2_luckyPlaces_14 : decode cX2_luckyPlaces 14 = .ok (.ireturn, 1) := by decide +kernel
theorem dX3_init_0 : decode cX3_init 0 = .ok (.aload_n 0, 1) := by decide +kernel
theorem dX3_init_1 : decode cX3_init 1 = .ok (.invokespecial 3, 3) := by decide +kernel
theorem dX3_init_4 : decode cX3_init 4 = .ok (.aload_n 0, 1) := by decide +kernel
theorem dX3_init_5 : decode cX3_init 5 = .ok (.bipush 33, 2) := by decide +kernel
theorem dX3_init_7 : decode cX3_init 7 = .ok (.newarray .long, 2) := by decide +kernel
theorem dX3_init_9 : decode cX3_init 9 = .ok (.putfield 9, 3) := by decide +kernel
theorem dX3_init_12 : decode cX3_init 12 = .ok (.return_, 1) := by decide +kernel
theorem dX3_ofNear_0 : decode cX3_ofNear 0 = .ok (.aload_n 0, 1) := by decide +kernel
theorem dX3_ofNear_1 : decode cX3_ofNear 1 = .ok (.invokevirtual 15, 3) := by decide +kernel
theorem dX3_ofNear_4 : decode cX3_ofNear 4 = .ok (.iconst 0, 1) := by decide +kernel
theorem dX3_ofNear_5 : decode cX3_ofNear 5 = .ok (.istore 4, 2) := by decide +kernel
theorem dX3_ofNear_7 : decode cX3_ofNear 7 = .ok (.iload 4, 2) := by decide +kernel
theorem dX3_ofNear_9 : decode cX3_ofNear 9 = .ok (.aload_n 1, 1) := by decide +kernel
theorem dX3_ofNear_10 : decode cX3_ofNear 10 = .ok (.getfield 18, 3) := by decide +kernel
theorem dX3_ofNear_13 : decode cX3_ofNear 13 = .ok (.if_icmp .ge 21, 3) := by decide +kernel
theorem dX3_ofNear_16 : decode cX3_ofNear 16 = .ok (.aload_n 0, 1) := by decide +kernel
theorem dX3_ofNear_17 : decode cX3_ofNear 17 = .ok (.aload_n 1, 1) := by decide +kernel
theorem dX3_ofNear_18 : decode cX3_ofNear 18 = .ok (.iload 4, 2) := by decide +kernel
theorem dX3_ofNear_20 : decode cX3_ofNear 20 = .ok (.iload_n 2, 1) := by decide +kernel
theorem dX3_ofNear_21 : decode cX3_ofNear 21 = .ok (.invokevirtual 24, 3) := by decide +kernel
theorem dX3_ofNear_24 : decode cX3_ofNear 24 = .ok (.iload_n 2, 1) := by decide +kernel
theorem dX3_ofNear_25 : decode cX3_ofNear 25 = .ok (.invokevirtual 28, 3) := by decide +kernel
theorem dX3_ofNear_28 : decode cX3_ofNear 28 = .ok (.iinc 4 1, 3) := by decide +kernel
theorem dX3_ofNear_31 : decode cX3_ofNear 31 = .ok (.goto (-24), 3) := by decide +kernel
theorem dX3_ofNear_34 : decode cX3_ofNear 34 = .ok (.aload_n 0, 1) := by decide +kernel
theorem dX3_ofNear_35 : decode cX3_ofNear 35 = .ok (.iload_n 3, 1) := by decide +kernel
theorem dX3_ofNear_36 : decode cX3_ofNear 36 = .ok (.invokevirtual 32, 3) := by decide +kernel
theorem dX3_ofNear_39 : decode cX3_ofNear 39 = .ok (.ireturn, 1) := by decide +kernel
theorem dX3_ofShort_0 : decode cX3_ofShort 0 = .ok (.aload_n 0, 1) := by decide +kernel
theorem dX3_ofShort_1 : decode cX3_ofShort 1 = .ok (.invokevirtual 15, 3) := by decide +kernel
theorem dX3_ofShort_4 : decode cX3_ofShort 4 = .ok (.iconst 0, 1) := by decide +kernel
theorem dX3_ofShort_5 : decode cX3_ofShort 5 = .ok (.istore_n 3, 1) := by decide +kernel
theorem dX3_ofShort_6 : decode cX3_ofShort 6 = .ok (.iload_n 3, 1) := by decide +kernel
theorem dX3_ofShort_7 : decode cX3_ofShort 7 = .ok (.iload_n 1, 1) := by decide +kernel
theorem dX3_ofShort_8 : decode cX3_ofShort 8 = .ok (.if_icmp .ge 21, 3) := by decide +kernel
theorem dX3_ofShort_11 : decode cX3_ofShort 11 = .ok (.iload_n 3, 1) := by decide +kernel
theorem dX3_ofShort_12 : decode cX3_ofShort 12 = .ok (.bipush 32, 2) := by decide +kernel
theorem dX3_ofShort_14 : decode cX3_ofShort 14 = .ok (.if_icmp .ge 15, 3) := by decide +kernel
theorem dX3_ofShort_17 : decode cX3_ofShort 17 = .ok (.aload_n 0, 1) := by decide +kernel
theorem dX3_ofShort_18 : decode cX3_ofShort 18 = .ok (.iconst 1, 1) := by decide +kernel
theorem dX3_ofShort_19 : decode cX3_ofShort 19 = .ok (.iconst 2, 1) := by decide +kernel
theorem dX3_ofShort_20 : decode cX3_ofShort 20 = .ok (.invokevirtual 28, 3) := by decide +kernel
theorem dX3_ofShort_23 : decode cX3_ofShort 23 = .ok (.iinc 3 1, 3) := by decide +kernel
theorem dX3_ofShort_26 : decode cX3_ofShort 26 = .ok (.goto (-20), 3) := by decide +kernel
theorem dX3_ofShort_29 : decode cX3_ofShort 29 = .ok (.aload_n 0, 1) := by decide +kernel
theorem dX3_ofShort_30 : decode cX3_ofShort 30 = .ok (.iload_n 2, 1) := by decide +kernel
theorem dX3_ofShort_31 : decode cX3_ofShort 31 = .ok (.invokevirtual 32, 3) := by decide +kernel
theorem dX3_ofShort_34 : decode cX3_ofShort 34 = .ok (.ireturn, 1) := by decide +kernel
theorem dX3_begin_0 : decode cX3_begin 0 = .ok (.aload_n 0, 1) := by decide +kernel
theorem dX3_begin_1 : decode cX3_begin 1 = .ok (.getfield 9, 3) := by decide +kernel
theorem dX3_begin_4 : decode cX3_begin 4 = .ok (.iconst 0, 1) := by decide +kernel
theorem dX3_begin_5 : decode cX3_begin 5 = .ok (.ldc2_w 36, 3) := by decide +kernel
theorem dX3_begin_8 : decode cX3_begin 8 = .ok (.lastore, 1) := by decide +kernel
theorem dX3_begin_9 : decode cX3_begin 9 = .ok (.iconst 1, 1) := by decide +kernel
theorem dX3_begin_10 : decode cX3_begin 10 = .ok (.istore_n 1, 1) := by decide +kernel
theorem dX3_begin_11 : decode cX3_begin 11 = .ok (.iload_n 1, 1) := by decide +kernel
theorem dX3_begin_12 : decode cX3_begin 12 = .ok (.bipush 32, 2) := by decide +kernel
theorem dX3_begin_14 : decode cX3_begin 14 = .ok (.if_icmp .gt 16, 3) := by decide +kernel
theorem dX3_begin_17 : decode cX3_begin 17 = .ok (.aload_n 0, 1) := by decide +kernel
theorem dX3_begin_18 : decode cX3_begin 18 = .ok (.getfield 9, 3) := by decide +kernel
theorem dX3_begin_21 : decode cX3_begin 21 = .ok (.iload_n 1, 1) := by decide +kernel
theorem dX3_begin_22 : decode cX3_begin 22 = .ok (.lconst 0, 1) := by decide +kernel
theorem dX3_begin_23 : decode cX3_begin 23 = .ok (.lastore, 1) := by decide +kernel
theorem dX3_begin_24 : decode cX3_begin 24 = .ok (.iinc 1 1, 3) := by decide +kernel
theorem dX3_begin_27 : decode cX3_begin 27 = .ok (.goto (-16), 3) := by decide +kernel
theorem dX3_begin_30 : decode cX3_begin 30 = .ok (.return_, 1) := by decide +kernel
theorem dX3_draw_0 : decode cX3_draw 0 = .ok (.iload_n 2, 1) := by decide +kernel
theorem dX3_draw_1 : decode cX3_draw 1 = .ok (.iconst 1, 1) := by decide +kernel
theorem dX3_draw_2 : decode cX3_draw 2 = .ok (.if_icmp .ge 4, 3) := by decide +kernel
theorem dX3_draw_5 : decode cX3_draw 5 = .ok (.return_, 1) := by decide +kernel
theorem dX3_draw_6 : decode cX3_draw 6 = .ok (.bipush 32, 2) := by decide +kernel
theorem dX3_draw_8 : decode cX3_draw 8 = .ok (.istore_n 3, 1) := by decide +kernel
theorem dX3_draw_9 : decode cX3_draw 9 = .ok (.iload_n 3, 1) := by decide +kernel
theorem dX3_draw_10 : decode cX3_draw 10 = .ok (.ifCond .le 41, 3) := by decide +kernel
theorem dX3_draw_13 : decode cX3_draw 13 = .ok (.aload_n 0, 1) := by decide +kernel
theorem dX3_draw_14 : decode cX3_draw 14 = .ok (.getfield 9, 3) := by decide +kernel
theorem dX3_draw_17 : decode cX3_draw 17 = .ok (.iload_n 3, 1) := by decide +kernel
theorem dX3_draw_18 : decode cX3_draw 18 = .ok (.aload_n 0, 1) := by decide +kernel
theorem dX3_draw_19 : decode cX3_draw 19 = .ok (.getfield 9, 3) := by decide +kernel
theorem dX3_draw_22 : decode cX3_draw 22 = .ok (.iload_n 3, 1) := by decide +kernel
theorem dX3_draw_23 : decode cX3_draw 23 = .ok (.laload, 1) := by decide +kernel
theorem dX3_draw_24 : decode cX3_draw 24 = .ok (.iload_n 2, 1) := by decide +kernel
theorem dX3_draw_25 : decode cX3_draw 25 = .ok (.iload_n 1, 1) := by decide +kernel
theorem dX3_draw_26 : decode cX3_draw 26 = .ok (.isub, 1) := by decide +kernel
theorem dX3_draw_27 : decode cX3_draw 27 = .ok (.i2l, 1) := by decide +kernel
theorem dX3_draw_28 : decode cX3_draw 28 = .ok (.lmul, 1) := by decide +kernel
theorem dX3_draw_29 : decode cX3_draw 29 = .ok (.aload_n 0, 1) := by decide +kernel
theorem dX3_draw_30 : decode cX3_draw 30 = .ok (.getfield 9, 3) := by decide +kernel
theorem dX3_draw_33 : decode cX3_draw 33 = .ok (.iload_n 3, 1) := by decide +kernel
theorem dX3_draw_34 : decode cX3_draw 34 = .ok (.iconst 1, 1) := by decide +kernel
theorem dX3_draw_35 : decode cX3_draw 35 = .ok (.isub, 1) := by decide +kernel
theorem dX3_draw_36 : decode cX3_draw 36 = .ok (.laload, 1) := by decide +kernel
theorem dX3_draw_37 : decode cX3_draw 37 = .ok (.iload_n 1, 1) := by decide +kernel
theorem dX3_draw_38 : decode cX3_draw 38 = .ok (.i2l, 1) := by decide +kernel
theorem dX3_draw_39 : decode cX3_draw 39 = .ok (.lmul, 1) := by decide +kernel
theorem dX3_draw_40 : decode cX3_draw 40 = .ok (.ladd, 1) := by decide +kernel
theorem dX3_draw_41 : decode cX3_draw 41 = .ok (.iload_n 2, 1) := by decide +kernel
theorem dX3_draw_42 : decode cX3_draw 42 = .ok (.i2l, 1) := by decide +kernel
theorem dX3_draw_43 : decode cX3_draw 43 = .ok (.ldiv, 1) := by decide +kernel
theorem dX3_draw_44 : decode cX3_draw 44 = .ok (.lastore, 1) := by decide +kernel
theorem dX3_draw_45 : decode cX3_draw 45 = .ok (.iinc 3 (-1), 3) := by decide +kernel
theorem dX3_draw_48 : decode cX3_draw 48 = .ok (.goto (-39), 3) := by decide +kernel
theorem dX3_draw_51 : decode cX3_draw 51 = .ok (.aload_n 0, 1) := by decide +kernel
theorem dX3_draw_52 : decode cX3_draw 52 = .ok (.getfield 9, 3) := by decide +kernel
theorem dX3_draw_55 : decode cX3_draw 55 = .ok (.iconst 0, 1) := by decide +kernel
theorem dX3_draw_56 : decode cX3_draw 56 = .ok (.aload_n 0, 1) := by decide +kernel
theorem dX3_draw_57 : decode cX3_draw 57 = .ok (.getfield 9, 3) := by decide +kernel
theorem dX3_draw_60 : decode cX3_draw 60 = .ok (.iconst 0, 1) := by decide +kernel
theorem dX3_draw_61 : decode cX3_draw 61 = .ok (.laload, 1) := by decide +kernel
theorem dX3_draw_62 : decode cX3_draw 62 = .ok (.iload_n 2, 1) := by decide +kernel
theorem dX3_draw_63 : decode cX3_draw 63 = .ok (.iload_n 1, 1) := by decide +kernel
theorem dX3_draw_64 : decode cX3_draw 64 = .ok (.isub, 1) := by decide +kernel
theorem dX3_draw_65 : decode cX3_draw 65 = .ok (.i2l, 1) := by decide +kernel
theorem dX3_draw_66 : decode cX3_draw 66 = .ok (.lmul, 1) := by decide +kernel
theorem dX3_draw_67 : decode cX3_draw 67 = .ok (.iload_n 2, 1) := by decide +kernel
theorem dX3_draw_68 : decode cX3_draw 68 = .ok (.i2l, 1) := by decide +kernel
theorem dX3_draw_69 : decode cX3_draw 69 = .ok (.ldiv, 1) := by decide +kernel
theorem dX3_draw_70 : decode cX3_draw 70 = .ok (.lastore, 1) := by decide +kernel
theorem dX3_draw_71 : decode cX3_draw 71 = .ok (.return_, 1) := by decide +kernel
theorem dX3_from_0 : decode cX3_from 0 = .ok (.lconst 0, 1) := by decide +kernel
theorem dX3_from_1 : decode cX3_from 1 = .ok (.lstore_n 2, 1) := by decide +kernel
theorem dX3_from_2 : decode cX3_from 2 = .ok (.iconst 0, 1) := by decide +kernel
theorem dX3_from_3 : decode cX3_from 3 = .ok (.iload_n 1, 1) := by decide +kernel
theorem dX3_from_4 : decode cX3_from 4 = .ok (.invokestatic 38, 3) := by decide +kernel
theorem dX3_from_7 : decode cX3_from 7 = .ok (.istore 4, 2) := by decide +kernel
theorem dX3_from_9 : decode cX3_from 9 = .ok (.iload 4, 2) := by decide +kernel
theorem dX3_from_11 : decode cX3_from 11 = .ok (.bipush 32, 2) := by decide +kernel
theorem dX3_from_13 : decode cX3_from 13 = .ok (.if_icmp .gt 19, 3) := by decide +kernel
theorem dX3_from_16 : decode cX3_from 16 = .ok (.lload_n 2, 1) := by decide +kernel
theorem dX3_from_17 : decode cX3_from 17 = .ok (.aload_n 0, 1) := by decide +kernel
theorem dX3_from_18 : decode cX3_from 18 = .ok (.getfield 9, 3) := by decide +kernel
theorem dX3_from_21 : decode cX3_from 21 = .ok (.iload 4, 2) := by decide +kernel
theorem dX3_from_23 : decode cX3_from 23 = .ok (.laload, 1) := by decide +kernel
theorem dX3_from_24 : decode cX3_from 24 = .ok (.ladd, 1) := by decide +kernel
theorem dX3_from_25 : decode cX3_from 25 = .ok (.lstore_n 2, 1) := by decide +kernel
theorem dX3_from_26 : decode cX3_from 26 = .ok (.iinc 4 1, 3) := by decide +kernel
theorem dX3_from_29 : decode cX3_from 29 = .ok (.goto (-20), 3) := by decide +kernel
theorem dX3_from_32 : decode cX3_from 32 = .ok (.lload_n 2, 1) := by decide +kernel
theorem dX3_from_33 : decode cX3_from 33 = .ok (.l2i, 1) := by decide +kernel
theorem dX3_from_34 : decode cX3_from 34 = .ok (.ireturn, 1) := by decide +kernel
theorem dX4_init_0 : decode cX4_init 0 = .ok (.aload_n 0, 1) := by decide +kernel
theorem dX4_init_1 : decode cX4_init 1 = .ok (.invokespecial 3, 3) := by decide +kernel
theorem dX4_init_4 : decode cX4_init 4 = .ok (.aload_n 0, 1) := by decide +kernel
theorem dX4_init_5 : decode cX4_init 5 = .ok (.iconst 0, 1) := by decide +kernel
theorem dX4_init_6 : decode cX4_init 6 = .ok (.putfield 9, 3) := by decide +kernel
theorem dX4_init_9 : decode cX4_init 9 = .ok (.aload_n 0, 1) := by decide +kernel
theorem dX4_init_10 : decode cX4_init 10 = .ok (.bipush 32, 2) := by decide +kernel
theorem dX4_init_12 : decode cX4_init 12 = .ok (.newarray .int, 2) := by decide +kernel
theorem dX4_init_14 : decode cX4_init 14 = .ok (.putfield 15, 3) := by decide +kernel
theorem dX4_init_17 : decode cX4_init 17 = .ok (.aload_n 0, 1) := by decide +kernel
theorem dX4_init_18 : decode cX4_init 18 = .ok (.bipush 32, 2) := by decide +kernel
theorem dX4_init_20 : decode cX4_init 20 = .ok (.newarray .int, 2) := by decide +kernel
theorem dX4_init_22 : decode cX4_init 22 = .ok (.putfield 19, 3) := by decide +kernel
theorem dX4_init_25 : decode cX4_init 25 = .ok (.aload_n 0, 1) := by decide +kernel
theorem dX4_init_26 : decode cX4_init 26 = .ok (.bipush 32, 2) := by decide +kernel
end
section
theorem dX4_init_28 : decode cX4_init 28 = .ok (.newarray .int, 2) := by decide +kernel
theorem dX4_init_30 : decode cX4_init 30 = .ok (.putfield 22, 3) := by decide +kernel
theorem dX4_init_33 : decode cX4_init 33 = .ok (.aload_n 0, 1) := by decide +kernel
theorem dX4_init_34 : decode cX4_init 34 = .ok (.bipush 32, 2) := by decide +kernel
theorem dX4_init_36 : decode cX4_init 36 = .ok (.newarray .int, 2) := by decide +kernel
theorem dX4_init_38 : decode cX4_init 38 = .ok (.putfield 25, 3) := by decide +kernel
theorem dX4_init_41 : decode cX4_init 41 = .ok (.aload_n 0, 1) := by decide +kernel
theorem dX4_init_42 : decode cX4_init 42 = .ok (.bipush 32, 2) := by decide +kernel
theorem dX4_init_44 : decode cX4_init 44 = .ok (.newarray .int, 2) := by decide +kernel
theorem dX4_init_46 : decode cX4_init 46 = .ok (.putfield 28, 3) := by decide +kernel
theorem dX4_init_49 : decode cX4_init 49 = .ok (.aload_n 0, 1) := by decide +kernel
theorem dX4_init_50 : decode cX4_init 50 = .ok (.bipush 8, 2) := by decide +kernel
theorem dX4_init_52 : decode cX4_init 52 = .ok (.newarray .int, 2) := by decide +kernel
theorem dX4_init_54 : decode cX4_init 54 = .ok (.putfield 31, 3) := by decide +kernel
theorem dX4_init_57 : decode cX4_init 57 = .ok (.return_, 1) := by decide +kernel
theorem dX4_gather_0 : decode cX4_gather 0 = .ok (.aload_n 0, 1) := by decide +kernel
theorem dX4_gather_1 : decode cX4_gather 1 = .ok (.iconst 0, 1) := by decide +kernel
theorem dX4_gather_2 : decode cX4_gather 2 = .ok (.putfield 9, 3) := by decide +kernel
theorem dX4_gather_5 : decode cX4_gather 5 = .ok (.iconst 0, 1) := by decide +kernel
theorem dX4_gather_6 : decode cX4_gather 6 = .ok (.istore 4, 2) := by decide +kernel
theorem dX4_gather_8 : decode cX4_gather 8 = .ok (.iload 4, 2) := by decide +kernel
theorem dX4_gather_10 : decode cX4_gather 10 = .ok (.aload_n 1, 1) := by decide +kernel
theorem dX4_gather_11 : decode cX4_gather 11 = .ok (.getfield 34, 3) := by decide +kernel
theorem dX4_gather_14 : decode cX4_gather 14 = .ok (.getfield 40, 3) := by decide +kernel
theorem dX4_gather_17 : decode cX4_gather 17 = .ok (.if_icmp .ge 27, 3) := by decide +kernel
theorem dX4_gather_20 : decode cX4_gather 20 = .ok (.aload_n 1, 1) := by decide +kernel
theorem dX4_gather_21 : decode cX4_gather 21 = .ok (.iload 4, 2) := by decide +kernel
theorem dX4_gather_23 : decode cX4_gather 23 = .ok (.iload_n 2, 1) := by decide +kernel
theorem dX4_gather_24 : decode cX4_gather 24 = .ok (.iload_n 3, 1) := by decide +kernel
theorem dX4_gather_25 : decode cX4_gather 25 = .ok (.invokestatic 45, 3) := by decide +kernel
theorem dX4_gather_28 : decode cX4_gather 28 = .ok (.ifCond .eq 10, 3) := by decide +kernel
theorem dX4_gather_31 : decode cX4_gather 31 = .ok (.aload_n 0, 1) := by decide +kernel
theorem dX4_gather_32 : decode cX4_gather 32 = .ok (.aload_n 1, 1) := by decide +kernel
theorem dX4_gather_33 : decode cX4_gather 33 = .ok (.iload 4, 2) := by decide +kernel
theorem dX4_gather_35 : decode cX4_gather 35 = .ok (.invokevirtual 49, 3) := by decide +kernel
theorem dX4_gather_38 : decode cX4_gather 38 = .ok (.iinc 4 1, 3) := by decide +kernel
theorem dX4_gather_41 : decode cX4_gather 41 = .ok (.goto (-33), 3) := by decide +kernel
theorem dX4_gather_44 : decode cX4_gather 44 = .ok (.aload_n 0, 1) := by decide +kernel
theorem dX4_gather_45 : decode cX4_gather 45 = .ok (.getfield 9, 3) := by decide +kernel
theorem dX4_gather_48 : decode cX4_gather 48 = .ok (.ireturn, 1) := by decide +kernel
theorem dX4_takeAlone_0 : decode cX4_takeAlone 0 = .ok (.aload_n 0, 1) := by decide +kernel
theorem dX4_takeAlone_1 : decode cX4_takeAlone 1 = .ok (.iconst 0, 1) := by decide +kernel
theorem dX4_takeAlone_2 : decode cX4_takeAlone 2 = .ok (.putfield 9, 3) := by decide +kernel
theorem dX4_takeAlone_5 : decode cX4_takeAlone 5 = .ok (.iload_n 2, 1) := by decide +kernel
theorem dX4_takeAlone_6 : decode cX4_takeAlone 6 = .ok (.ifCond .lt 14, 3) := by decide +kernel
theorem dX4_takeAlone_9 : decode cX4_takeAlone 9 = .ok (.iload_n 2, 1) := by decide +kernel
theorem dX4_takeAlone_10 : decode cX4_takeAlone 10 = .ok (.aload_n 1, 1) := by decide +kernel
theorem dX4_takeAlone_11 : decode cX4_takeAlone 11 = .ok (.getfield 34, 3) := by decide +kernel
theorem dX4_takeAlone_14 : decode cX4_takeAlone 14 = .ok (.getfield 40, 3) := by decide +kernel
theorem dX4_takeAlone_17 : decode cX4_takeAlone 17 = .ok (.if_icmp .lt 5, 3) := by decide +kernel
theorem dX4_takeAlone_20 : decode cX4_takeAlone 20 = .ok (.iconst 0, 1) := by decide +kernel
theorem dX4_takeAlone_21 : decode cX4_takeAlone 21 = .ok (.ireturn, 1) := by decide +kernel
theorem dX4_takeAlone_22 : decode cX4_takeAlone 22 = .ok (.aload_n 0, 1) := by decide +kernel
theorem dX4_takeAlone_23 : decode cX4_takeAlone 23 = .ok (.aload_n 1, 1) := by decide +kernel
theorem dX4_takeAlone_24 : decode cX4_takeAlone 24 = .ok (.iload_n 2, 1) := by decide +kernel
theorem dX4_takeAlone_25 : decode cX4_takeAlone 25 = .ok (.invokevirtual 49, 3) := by decide +kernel
theorem dX4_takeAlone_28 : decode cX4_takeAlone 28 = .ok (.iconst 1, 1) := by decide +kernel
theorem dX4_takeAlone_29 : decode cX4_takeAlone 29 = .ok (.ireturn, 1) := by decide +kernel
theorem dX4_numberOf_0 : decode cX4_numberOf 0 = .ok (.aload_n 0, 1) := by decide +kernel
theorem dX4_numberOf_1 : decode cX4_numberOf 1 = .ok (.iload_n 1, 1) := by decide +kernel
theorem dX4_numberOf_2 : decode cX4_numberOf 2 = .ok (.invokevirtual 53, 3) := by decide +kernel
theorem dX4_numberOf_5 : decode cX4_numberOf 5 = .ok (.ifCond .eq 12, 3) := by decide +kernel
theorem dX4_numberOf_8 : decode cX4_numberOf 8 = .ok (.aload_n 0, 1) := by decide +kernel
theorem dX4_numberOf_9 : decode cX4_numberOf 9 = .ok (.getfield 22, 3) := by decide +kernel
theorem dX4_numberOf_12 : decode cX4_numberOf 12 = .ok (.iload_n 1, 1) := by decide +kernel
theorem dX4_numberOf_13 : decode cX4_numberOf 13 = .ok (.iaload, 1) := by decide +kernel
theorem dX4_numberOf_14 : decode cX4_numberOf 14 = .ok (.goto 4, 3) := by decide +kernel
theorem dX4_numberOf_17 : decode cX4_numberOf 17 = .ok (.iconst (-1), 1) := by decide +kernel
theorem dX4_numberOf_18 : decode cX4_numberOf 18 = .ok (.ireturn, 1) := by decide +kernel
theorem dX4_indexOf_0 : decode cX4_indexOf 0 = .ok (.iconst 0, 1) := by decide +kernel
theorem dX4_indexOf_1 : decode cX4_indexOf 1 = .ok (.istore_n 2, 1) := by decide +kernel
theorem dX4_indexOf_2 : decode cX4_indexOf 2 = .ok (.iload_n 2, 1) := by decide +kernel
theorem dX4_indexOf_3 : decode cX4_indexOf 3 = .ok (.aload_n 0, 1) := by decide +kernel
theorem dX4_indexOf_4 : decode cX4_indexOf 4 = .ok (.getfield 9, 3) := by decide +kernel
theorem dX4_indexOf_7 : decode cX4_indexOf 7 = .ok (.if_icmp .ge 20, 3) := by decide +kernel
theorem dX4_indexOf_10 : decode cX4_indexOf 10 = .ok (.aload_n 0, 1) := by decide +kernel
theorem dX4_indexOf_11 : decode cX4_indexOf 11 = .ok (.iload_n 2, 1) := by decide +kernel
theorem dX4_indexOf_12 : decode cX4_indexOf 12 = .ok (.invokevirtual 57, 3) := by decide +kernel
theorem dX4_indexOf_15 : decode cX4_indexOf 15 = .ok (.iload_n 1, 1) := by decide +kernel
theorem dX4_indexOf_16 : decode cX4_indexOf 16 = .ok (.if_icmp .ne 5, 3) := by decide +kernel
theorem dX4_indexOf_19 : decode cX4_indexOf 19 = .ok (.iload_n 2, 1) := by decide +kernel
theorem dX4_indexOf_20 : decode cX4_indexOf 20 = .ok (.ireturn, 1) := by decide +kernel
theorem dX4_indexOf_21 : decode cX4_indexOf 21 = .ok (.iinc 2 1, 3) := by decide +kernel
theorem dX4_indexOf_24 : decode cX4_indexOf 24 = .ok (.goto (-22), 3) := by decide +kernel
theorem dX4_indexOf_27 : decode cX4_indexOf 27 = .ok (.iconst (-1), 1) := by decide +kernel
theorem dX4_indexOf_28 : decode cX4_indexOf 28 = .ok (.ireturn, 1) := by decide +kernel
theorem dX4_markOf_0 : decode cX4_markOf 0 = .ok (.aload_n 0, 1) := by decide +kernel
theorem dX4_markOf_1 : decode cX4_markOf 1 = .ok (.iload_n 1, 1) := by decide +kernel
theorem dX4_markOf_2 : decode cX4_markOf 2 = .ok (.invokevirtual 53, 3) := by decide +kernel
theorem dX4_markOf_5 : decode cX4_markOf 5 = .ok (.ifCond .eq 12, 3) := by decide +kernel
theorem dX4_markOf_8 : decode cX4_markOf 8 = .ok (.aload_n 0, 1) := by decide +kernel
theorem dX4_markOf_9 : decode cX4_markOf 9 = .ok (.getfield 25, 3) := by decide +kernel
theorem dX4_markOf_12 : decode cX4_markOf 12 = .ok (.iload_n 1, 1) := by decide +kernel
theorem dX4_markOf_13 : decode cX4_markOf 13 = .ok (.iaload, 1) := by decide +kernel
theorem dX4_markOf_14 : decode cX4_markOf 14 = .ok (.goto 4, 3) := by decide +kernel
theorem dX4_markOf_17 : decode cX4_markOf 17 = .ok (.iconst 0, 1) := by decide +kernel
theorem dX4_markOf_18 : decode cX4_markOf 18 = .ok (.ireturn, 1) := by decide +kernel
theorem dX4_townOf_0 : decode cX4_townOf 0 = .ok (.aload_n 0, 1) := by decide +kernel
theorem dX4_townOf_1 : decode cX4_townOf 1 = .ok (.iload_n 1, 1) := by decide +kernel
theorem dX4_townOf_2 : decode cX4_townOf 2 = .ok (.invokevirtual 53, 3) := by decide +kernel
theorem dX4_townOf_5 : decode cX4_townOf 5 = .ok (.ifCond .eq 12, 3) := by decide +kernel
theorem dX4_townOf_8 : decode cX4_townOf 8 = .ok (.aload_n 0, 1) := by decide +kernel
theorem dX4_townOf_9 : decode cX4_townOf 9 = .ok (.getfield 28, 3) := by decide +kernel
theorem dX4_townOf_12 : decode cX4_townOf 12 = .ok (.iload_n 1, 1) := by decide +kernel
theorem dX4_townOf_13 : decode cX4_townOf 13 = .ok (.iaload, 1) := by decide +kernel
theorem dX4_townOf_14 : decode cX4_townOf 14 = .ok (.goto 4, 3) := by decide +kernel
theorem dX4_townOf_17 : decode cX4_townOf 17 = .ok (.iconst 0, 1) := by decide +kernel
theorem dX4_townOf_18 : decode cX4_townOf 18 = .ok (.ireturn, 1) := by decide +kernel
theorem dX4_offOf_0 : decode cX4_offOf 0 = .ok (.aload_n 0, 1) := by decide +kernel
theorem dX4_offOf_1 : decode cX4_offOf 1 = .ok (.iload_n 1, 1) := by decide +kernel
theorem dX4_offOf_2 : decode cX4_offOf 2 = .ok (.invokevirtual 53, 3) := by decide +kernel
theorem dX4_offOf_5 : decode cX4_offOf 5 = .ok (.ifCond .eq 28, 3) := by decide +kernel
theorem dX4_offOf_8 : decode cX4_offOf 8 = .ok (.aload_n 0, 1) := by decide +kernel
theorem dX4_offOf_9 : decode cX4_offOf 9 = .ok (.getfield 15, 3) := by decide +kernel
theorem dX4_offOf_12 : decode cX4_offOf 12 = .ok (.iload_n 1, 1) := by decide +kernel
theorem dX4_offOf_13 : decode cX4_offOf 13 = .ok (.iaload, 1) := by decide +kernel
theorem dX4_offOf_14 : decode cX4_offOf 14 = .ok (.aload_n 0, 1) := by decide +kernel
theorem dX4_offOf_15 : decode cX4_offOf 15 = .ok (.getfield 19, 3) := by decide +kernel
theorem dX4_offOf_18 : decode cX4_offOf 18 = .ok (.iload_n 1, 1) := by decide +kernel
theorem dX4_offOf_19 : decode cX4_offOf 19 = .ok (.iaload, 1) := by decide +kernel
theorem dX4_offOf_20 : decode cX4_offOf 20 = .ok (.aload_n 0, 1) := by decide +kernel
theorem dX4_offOf_21 : decode cX4_offOf 21 = .ok (.getfield 25, 3) := by decide +kernel
theorem dX4_offOf_24 : decode cX4_offOf 24 = .ok (.iload_n 1, 1) := by decide +kernel
theorem dX4_offOf_25 : decode cX4_offOf 25 = .ok (.iaload, 1) := by decide +kernel
theorem dX4_offOf_26 : decode cX4_offOf 26 = .ok (.iload_n 2, 1) := by decide +kernel
theorem dX4_offOf_27 : decode cX4_offOf 27 = .ok (.invokestatic 61, 3) := by decide +kernel
theorem dX4_offOf_30 : decode cX4_offOf 30 = .ok (.goto 4, 3) := by decide +kernel
theorem dX4_offOf_33 : decode cX4_offOf 33 = .ok (.iconst 0, 1) := by decide +kernel
theorem dX4_offOf_34 : decode cX4_offOf 34 = .ok (.ireturn, 1) := by decide +kernel
theorem dX4_offIf_0 : decode cX4_offIf 0 = .ok (.aload_n 0, 1) := by decide +kernel
theorem dX4_offIf_1 : decode cX4_offIf 1 = .ok (.iload_n 1, 1) := by decide +kernel
theorem dX4_offIf_2 : decode cX4_offIf 2 = .ok (.invokevirtual 53, 3) := by decide +kernel
theorem dX4_offIf_5 : decode cX4_offIf 5 = .ok (.ifCond .eq 18, 3) := by decide +kernel
theorem dX4_offIf_8 : decode cX4_offIf 8 = .ok (.iload_n 2, 1) := by decide +kernel
theorem dX4_offIf_9 : decode cX4_offIf 9 = .ok (.iload_n 2, 1) := by decide +kernel
theorem dX4_offIf_10 : decode cX4_offIf 10 = .ok (.aload_n 0, 1) := by decide +kernel
theorem dX4_offIf_11 : decode cX4_offIf 11 = .ok (.getfield 25, 3) := by decide +kernel
theorem dX4_offIf_14 : decode cX4_offIf 14 = .ok (.iload_n 1, 1) := by decide +kernel
theorem dX4_offIf_15 : decode cX4_offIf 15 = .ok (.iaload, 1) := by decide +kernel
theorem dX4_offIf_16 : decode cX4_offIf 16 = .ok (.iload_n 3, 1) := by decide +kernel
theorem dX4_offIf_17 : decode cX4_offIf 17 = .ok (.invokestatic 61, 3) := by decide +kernel
theorem dX4_offIf_20 : decode cX4_offIf 20 = .ok (.goto 4, 3) := by decide +kernel
theorem dX4_offIf_23 : decode cX4_offIf 23 = .ok (.iconst 0, 1) := by decide +kernel
theorem dX4_offIf_24 : decode cX4_offIf 24 = .ok (.ireturn, 1) := by decide +kernel
theorem dX4_isNear_0 : decode cX4_isNear 0 = .ok (.bipush 8, 2) := by decide +kernel
theorem dX4_isNear_2 : decode cX4_isNear 2 = .ok (.aload_n 0, 1) := by decide +kernel
theorem dX4_isNear_3 : decode cX4_isNear 3 = .ok (.iload_n 1, 1) := by decide +kernel
theorem dX4_isNear_4 : decode cX4_isNear 4 = .ok (.iload_n 2, 1) := by decide +kernel
theorem dX4_isNear_5 : decode cX4_isNear 5 = .ok (.invokevirtual 67, 3) := by decide +kernel
theorem dX4_isNear_8 : decode cX4_isNear 8 = .ok (.imul, 1) := by decide +kernel
theorem dX4_isNear_9 : decode cX4_isNear 9 = .ok (.iload_n 2, 1) := by decide +kernel
theorem dX4_isNear_10 : decode cX4_isNear 10 = .ok (.if_icmp .gt 7, 3) := by decide +kernel
theorem dX4_isNear_13 : decode cX4_isNear 13 = .ok (.iconst 1, 1) := by decide +kernel
theorem dX4_isNear_14 : decode cX4_isNear 14 = .ok (.goto 4, 3) := by decide +kernel
theorem dX4_isNear_17 : decode cX4_isNear 17 = .ok (.iconst 0, 1) := by decide +kernel
theorem dX4_isNear_18 : decode cX4_isNear 18 = .ok (.ireturn, 1) := by decide +kernel
theorem dX4_timesOf_0 : decode cX4_timesOf 0 = .ok (.aload_n 0, 1) := by decide +kernel
theorem dX4_timesOf_1 : decode cX4_timesOf 1 = .ok (.iload_n 1, 1) := by decide +kernel
theorem dX4_timesOf_2 : decode cX4_timesOf 2 = .ok (.invokevirtual 53, 3) := by decide +kernel
theorem dX4_timesOf_5 : decode cX4_timesOf 5 = .ok (.ifCond .eq 28, 3) := by decide +kernel
theorem dX4_timesOf_8 : decode cX4_timesOf 8 = .ok (.aload_n 0, 1) := by decide +kernel
theorem dX4_timesOf_9 : decode cX4_timesOf 9 = .ok (.getfield 15, 3) := by decide +kernel
theorem dX4_timesOf_12 : decode cX4_timesOf 12 = .ok (.iload_n 1, 1) := by decide +kernel
theorem dX4_timesOf_13 : decode cX4_timesOf 13 = .ok (.iaload, 1) := by decide +kernel
theorem dX4_timesOf_14 : decode cX4_timesOf 14 = .ok (.aload_n 0, 1) := by decide +kernel
theorem dX4_timesOf_15 : decode cX4_timesOf 15 = .ok (.getfield 19, 3) := by decide +kernel
theorem dX4_timesOf_18 : decode cX4_timesOf 18 = .ok (.iload_n 1, 1) := by decide +kernel
theorem dX4_timesOf_19 : decode cX4_timesOf 19 = .ok (.iaload, 1) := by decide +kernel
theorem dX4_timesOf_20 : decode cX4_timesOf 20 = .ok (.aload_n 0, 1) := by decide +kernel
theorem dX4_timesOf_21 : decode cX4_timesOf 21 = .ok (.getfield 25, 3) := by decide +kernel
theorem dX4_timesOf_24 : decode cX4_timesOf 24 = .ok (.iload_n 1, 1) := by decide +kernel
theorem dX4_timesOf_25 : decode cX4_timesOf 25 = .ok (.iaload, 1) := by decide +kernel
theorem dX4_timesOf_26 : decode cX4_timesOf 26 = .ok (.iload_n 2, 1) := by decide +kernel
theorem dX4_timesOf_27 : decode cX4_timesOf 27 = .ok (.invokestatic 71, 3) := by decide +kernel
theorem dX4_timesOf_30 : decode cX4_timesOf 30 = .ok (.goto 4, 3) := by decide +kernel
theorem dX4_timesOf_33 : decode cX4_timesOf 33 = .ok (.iconst 0, 1) := by decide +kernel
theorem dX4_timesOf_34 : decode cX4_timesOf 34 = .ok (.ireturn, 1) := by decide +kernel
theorem dX4_shortOf_0 : decode cX4_shortOf 0 = .ok (.aload_n 0, 1) := by decide +kernel
theorem dX4_shortOf_1 : decode cX4_shortOf 1 = .ok (.iload_n 1, 1) := by decide +kernel
theorem dX4_shortOf_2 : decode cX4_shortOf 2 = .ok (.invokevirtual 53, 3) := by decide +kernel
theorem dX4_shortOf_5 : decode cX4_shortOf 5 = .ok (.ifCond .eq 22, 3) := by decide +kernel
theorem dX4_shortOf_8 : decode cX4_shortOf 8 = .ok (.aload_n 0, 1) := by decide +kernel
theorem dX4_shortOf_9 : decode cX4_shortOf 9 = .ok (.getfield 19, 3) := by decide +kernel
theorem dX4_shortOf_12 : decode cX4_shortOf 12 = .ok (.iload_n 1, 1) := by decide +kernel
theorem dX4_shortOf_13 : decode cX4_shortOf 13 = .ok (.iaload, 1) := by decide +kernel
theorem dX4_shortOf_14 : decode cX4_shortOf 14 = .ok (.aload_n 0, 1) := by decide +kernel
theorem dX4_shortOf_15 : decode cX4_shortOf 15 = .ok (.getfield 25, 3) := by decide +kernel
theorem dX4_shortOf_18 : decode cX4_shortOf 18 = .ok (.iload_n 1, 1) := by decide +kernel
theorem dX4_shortOf_19 : decode cX4_shortOf 19 = .ok (.iaload, 1) := by decide +kernel
theorem dX4_shortOf_20 : decode cX4_shortOf 20 = .ok (.iload_n 2, 1) := by decide +kernel
theorem dX4_shortOf_21 : decode cX4_shortOf 21 = .ok (.invokestatic 74, 3) := by decide +kernel
theorem dX4_shortOf_24 : decode cX4_shortOf 24 = .ok (.goto 4, 3) := by decide +kernel
theorem dX4_shortOf_27 : decode cX4_shortOf 27 = .ok (.iconst 0, 1) := by decide +kernel
theorem dX4_shortOf_28 : decode cX4_shortOf 28 = .ok (.ireturn, 1) := by decide +kernel
theorem dX4_luckyOf_0 : decode cX4_luckyOf 0 = .ok (.aload_n 0, 1) := by decide +kernel
theorem dX4_luckyOf_1 : decode cX4_luckyOf 1 = .ok (.iload_n 1, 1) := by decide +kernel
theorem dX4_luckyOf_2 : decode cX4_luckyOf 2 = .ok (.invokevirtual 53, 3) := by decide +kernel
theorem dX4_luckyOf_5 : decode cX4_luckyOf 5 = .ok (.ifCond .eq 23, 3) := by decide +kernel
theorem dX4_luckyOf_8 : decode cX4_luckyOf 8 = .ok (.aload_n 0, 1) := by decide +kernel
theorem dX4_luckyOf_9 : decode cX4_luckyOf 9 = .ok (.getfield 19, 3) := by decide +kernel
theorem dX4_luckyOf_12 : decode cX4_luckyOf 12 = .ok (.iload_n 1, 1) := by decide +kernel
theorem dX4_luckyOf_13 : decode cX4_luckyOf 13 = .ok (.iaload, 1) := by decide +kernel
theorem dX4_luckyOf_14 : decode cX4_luckyOf 14 = .ok (.aload_n 0, 1) := by decide +kernel
theorem dX4_luckyOf_15 : decode cX4_luckyOf 15 = .ok (.getfield 15, 3) := by decide +kernel
theorem dX4_luckyOf_18 : decode cX4_luckyOf 18 = .ok (.iload_n 1, 1) := by decide +kernel
theorem dX4_luckyOf_19 : decode cX4_luckyOf 19 = .ok (.iaload, 1) := by decide +kernel
theorem dX4_luckyOf_20 : decode cX4_luckyOf 20 = .ok (.isub, 1) := by decide +kernel
theorem dX4_luckyOf_21 : decode cX4_luckyOf 21 = .ok (.iload_n 2, 1) := by decide +kernel
theorem dX4_luckyOf_22 : decode cX4_luckyOf 22 = .ok (.invokestatic 78, 3) := by decide +kernel
theorem dX4_luckyOf_25 : decode cX4_luckyOf 25 = .ok (.goto 4, 3) := by decide +kernel
theorem dX4_luckyOf_28 : decode cX4_luckyOf 28 = .ok (.iconst 0, 1) := by decide +kernel
theorem dX4_luckyOf_29 : decode cX4_luckyOf 29 = .ok (.ireturn, 1) := by decide +kernel
theorem dX4_scoreBy_0 : decode cX4_scoreBy 0 = .ok (.iconst 0, 1) := by decide +kernel
theorem dX4_scoreBy_1 : decode cX4_scoreBy 1 = .ok (.istore_n 2, 1) := by decide +kernel
theorem dX4_scoreBy_2 : decode cX4_scoreBy 2 = .ok (.iconst 0, 1) := by decide +kernel
theorem dX4_scoreBy_3 : decode cX4_scoreBy 3 = .ok (.istore_n 3, 1) := by decide +kernel
theorem dX4_scoreBy_4 : decode cX4_scoreBy 4 = .ok (.iload_n 3, 1) := by decide +kernel
theorem dX4_scoreBy_5 : decode cX4_scoreBy 5 = .ok (.aload_n 0, 1) := by decide +kernel
theorem dX4_scoreBy_6 : decode cX4_scoreBy 6 = .ok (.getfield 9, 3) := by decide +kernel
theorem dX4_scoreBy_9 : decode cX4_scoreBy 9 = .ok (.if_icmp .ge 18, 3) := by decide +kernel
theorem dX4_scoreBy_12 : decode cX4_scoreBy 12 = .ok (.iload_n 2, 1) := by decide +kernel
theorem dX4_scoreBy_13 : decode cX4_scoreBy 13 = .ok (.aload_n 0, 1) := by decide +kernel
theorem dX4_scoreBy_14 : decode cX4_scoreBy 14 = .ok (.iload_n 3, 1) := by decide +kernel
theorem dX4_scoreBy_15 : decode cX4_scoreBy 15 = .ok (.iload_n 1, 1) := by decide +kernel
theorem dX4_scoreBy_16 : decode cX4_scoreBy 16 = .ok (.invokevirtual 67, 3) := by decide +kernel
theorem dX4_scoreBy_19 : decode cX4_scoreBy 19 = .ok (.iadd, 1) := by decide +kernel
theorem dX4_scoreBy_20 : decode cX4_scoreBy 20 = .ok (.istore_n 2, 1) := by decide +kernel
theorem dX4_scoreBy_21 : decode cX4_scoreBy 21 = .ok (.iinc 3 1, 3) := by decide +kernel
theorem dX4_scoreBy_24 : decode cX4_scoreBy 24 = .ok (.goto (-20), 3) := by decide +kernel
theorem dX4_scoreBy_27 : decode cX4_scoreBy 27 = .ok (.iload_n 1, 1) := by decide +kernel
theorem dX4_scoreBy_28 : decode cX4_scoreBy 28 = .ok (.aload_n 0, 1) := by decide +kernel
theorem dX4_scoreBy_29 : decode cX4_scoreBy 29 = .ok (.getfield 9, 3) := by decide +kernel
theorem dX4_scoreBy_32 : decode cX4_scoreBy 32 = .ok (.imul, 1) := by decide +kernel
theorem dX4_scoreBy_33 : decode cX4_scoreBy 33 = .ok (.iconst 4, 1) := by decide +kernel
theorem dX4_scoreBy_34 : decode cX4_scoreBy 34 = .ok (.iload_n 2, 1) := by decide +kernel
theorem dX4_scoreBy_35 : decode cX4_scoreBy 35 = .ok (.imul, 1) := by decide +kernel
theorem dX4_scoreBy_36 : decode cX4_scoreBy 36 = .ok (.isub, 1) := by decide +kernel
theorem dX4_scoreBy_37 : decode cX4_scoreBy 37 = .ok (.ireturn, 1) := by decide +kernel
theorem dX4_nearBy_0 : decode cX4_nearBy 0 = .ok (.iconst 0, 1) := by decide +kernel
theorem dX4_nearBy_1 : decode cX4_nearBy 1 = .ok (.istore_n 2, 1) := by decide +kernel
theorem dX4_nearBy_2 : decode cX4_nearBy 2 = .ok (.iconst 0, 1) := by decide +kernel
theorem dX4_nearBy_3 : decode cX4_nearBy 3 = .ok (.istore_n 3, 1) := by decide +kernel
theorem dX4_nearBy_4 : decode cX4_nearBy 4 = .ok (.iload_n 3, 1) := by decide +kernel
theorem dX4_nearBy_5 : decode cX4_nearBy 5 = .ok (.aload_n 0, 1) := by decide +kernel
theorem dX4_nearBy_6 : decode cX4_nearBy 6 = .ok (.getfield 9, 3) := by decide +kernel
theorem dX4_nearBy_9 : decode cX4_nearBy 9 = .ok (.if_icmp .ge 26, 3) := by decide +kernel
theorem dX4_nearBy_12 : decode cX4_nearBy 12 = .ok (.iload_n 2, 1) := by decide +kernel
theorem dX4_nearBy_13 : decode cX4_nearBy 13 = .ok (.aload_n 0, 1) := by decide +kernel
theorem dX4_nearBy_14 : decode cX4_nearBy 14 = .ok (.iload_n 3, 1) := by decide +kernel
theorem dX4_nearBy_15 : decode cX4_nearBy 15 = .ok (.iload_n 1, 1) := by decide +kernel
theorem dX4_nearBy_16 : decode cX4_nearBy 16 = .ok (.invokevirtual 81, 3) := by decide +kernel
theorem dX4_nearBy_19 : decode cX4_nearBy 19 = .ok (.ifCond .eq 7, 3) := by decide +kernel
theorem dX4_nearBy_22 : decode cX4_nearBy 22 = .ok (.iconst 1, 1) := by decide +kernel
theorem dX4_nearBy_23 : decode cX4_nearBy 23 = .ok (.goto 4, 3) := by decide +kernel
theorem dX4_nearBy_26 : decode cX4_nearBy 26 = .ok (.iconst 0, 1) := by decide +kernel
theorem dX4_nearBy_27 : decode cX4_nearBy 27 = .ok (.iadd, 1) := by decide +kernel
theorem dX4_nearBy_28 : decode cX4_nearBy 28 = .ok (.istore_n 2, 1) := by decide +kernel
theorem dX4_nearBy_29 : decode cX4_nearBy 29 = .ok (.iinc 3 1, 3) := by decide +kernel
theorem dX4_nearBy_32 : decode cX4_nearBy 32 = .ok (.goto (-28), 3) := by decide +kernel
theorem dX4_nearBy_35 : decode cX4_nearBy 35 = .ok (.iload_n 2, 1) := by decide +kernel
theorem dX4_nearBy_36 : decode cX4_nearBy 36 = .ok (.ireturn, 1) := by decide +kernel
theorem dX4_townsNear_0 : decode cX4_townsNear 0 = .ok (.iconst 0, 1) := by decide +kernel
theorem dX4_townsNear_1 : decode cX4_townsNear 1 = .ok (.istore_n 2, 1) := by decide +kernel
theorem dX4_townsNear_2 : decode cX4_townsNear 2 = .ok (.iconst 0, 1) := by decide +kernel
theorem dX4_townsNear_3 : decode cX4_townsNear 3 = .ok (.istore_n 3, 1) := by decide +kernel
theorem dX4_townsNear_4 : decode cX4_townsNear 4 = .ok (.iload_n 3, 1) := by decide +kernel
theorem dX4_townsNear_5 : decode cX4_townsNear 5 = .ok (.aload_n 0, 1) := by decide +kernel
theorem dX4_townsNear_6 : decode cX4_townsNear 6 = .ok (.getfield 9, 3) := by decide +kernel
theorem dX4_townsNear_9 : decode cX4_townsNear 9 = .ok (.if_icmp .ge 32, 3) := by decide +kernel
theorem dX4_townsNear_12 : decode cX4_townsNear 12 = .ok (.iload_n 2, 1) := by decide +kernel
theorem dX4_townsNear_13 : decode cX4_townsNear 13 = .ok (.aload_n 0, 1) := by decide +kernel
theorem dX4_townsNear_14 : decode cX4_townsNear 14 = .ok (.iload_n 3, 1) := by decide +kernel
theorem dX4_townsNear_15 : decode cX4_townsNear 15 = .ok (.iload_n 1, 1) := by decide +kernel
theorem dX4_townsNear_16 : decode cX4_townsNear 16 = .ok (.invokevirtual 81, 3) := by decide +kernel
theorem dX4_townsNear_19 : decode cX4_townsNear 19 = .ok (.ifCond .eq 13, 3) := by decide +kernel
theorem dX4_townsNear_22 : decode cX4_townsNear 22 = .ok (.iconst 1, 1) := by decide +kernel
theorem dX4_townsNear_23 : decode cX4_townsNear 23 = .ok (.aload_n 0, 1) := by decide +kernel
theorem dX4_townsNear_24 : decode cX4_townsNear 24 = .ok (.iload_n 3, 1) := by decide +kernel
theorem dX4_townsNear_25 : decode cX4_townsNear 25 = .ok (.invokevirtual 85, 3) := by decide +kernel
theorem dX4_townsNear_28 : decode cX4_townsNear 28 = .ok (.ishl, 1) := by decide +kernel
theorem dX4_townsNear_29 : decode cX4_townsNear 29 = .ok (.goto 4, 3) := by decide +kernel
theorem dX4_townsNear_32 : decode cX4_townsNear 32 = .ok (.iconst 0, 1) := by decide +kernel
theorem dX4_townsNear_33 : decode cX4_townsNear 33 = .ok (.ior, 1) := by decide +kernel
theorem dX4_townsNear_34 : decode cX4_townsNear 34 = .ok (.istore_n 2, 1) := by decide +kernel
theorem dX4_townsNear_35 : decode cX4_townsNear 35 = .ok (.iinc 3 1, 3) := by decide +kernel
theorem dX4_townsNear_38 : decode cX4_townsNear 38 = .ok (.goto (-34), 3) := by decide +kernel
theorem dX4_townsNear_41 : decode cX4_townsNear 41 = .ok (.iload_n 2, 1) := by decide +kernel
theorem dX4_townsNear_42 : decode cX4_townsNear 42 = .ok (.invokestatic 88, 3) := by decide +kernel
theorem dX4_townsNear_45 : decode cX4_townsNear 45 = .ok (.ireturn, 1) := by decide +kernel
theorem dX4_marksNear_0 : decode cX4_marksNear 0 = .ok (.iconst 0, 1) := by decide +kernel
theorem dX4_marksNear_1 : decode cX4_marksNear 1 = .ok (.istore_n 2, 1) := by decide +kernel
theorem dX4_marksNear_2 : decode cX4_marksNear 2 = .ok (.iconst 0, 1) := by decide +kernel
theorem dX4_marksNear_3 : decode cX4_marksNear 3 = .ok (.istore_n 3, 1) := by decide +kernel
theorem dX4_marksNear_4 : decode cX4_marksNear 4 = .ok (.iload_n 3, 1) := by decide +kernel
theorem dX4_marksNear_5 : decode cX4_marksNear 5 = .ok (.aload_n 0, 1) := by decide +kernel
theorem dX4_marksNear_6 : decode cX4_marksNear 6 = .ok (.getfield 9, 3) := by decide +kernel
theorem dX4_marksNear_9 : decode cX4_marksNear 9 = .ok (.if_icmp .ge 34, 3) := by decide +kernel
theorem dX4_marksNear_12 : decode cX4_marksNear 12 = .ok (.iload_n 2, 1) := by decide +kernel
theorem dX4_marksNear_13 : decode cX4_marksNear 13 = .ok (.aload_n 0, 1) := by decide +kernel
theorem dX4_marksNear_14 : decode cX4_marksNear 14 = .ok (.iload_n 3, 1) := by decide +kernel
theorem dX4_marksNear_15 : decode cX4_marksNear 15 = .ok (.invokevirtual 93, 3) := by decide +kernel
theorem dX4_marksNear_18 : decode cX4_marksNear 18 = .ok (.ifCond .le 16, 3) := by decide +kernel
theorem dX4_marksNear_21 : decode cX4_marksNear 21 = .ok (.aload_n 0, 1) := by decide +kernel
theorem dX4_marksNear_22 : decode cX4_marksNear 22 = .ok (.iload_n 3, 1) := by decide +kernel
theorem dX4_marksNear_23 : decode cX4_marksNear 23 = .ok (.iload_n 1, 1) := by decide +kernel
theorem dX4_marksNear_24 : decode cX4_marksNear 24 = .ok (.invokevirtual 81, 3) := by decide +kernel
theorem dX4_marksNear_27 : decode cX4_marksNear 27 = .ok (.ifCond .eq 7, 3) := by decide +kernel
theorem dX4_marksNear_30 : decode cX4_marksNear 30 = .ok (.iconst 1, 1) := by decide +kernel
theorem dX4_marksNear_31 : decode cX4_marksNear 31 = .ok (.goto 4, 3) := by decide +kernel
theorem dX4_marksNear_34 : decode cX4_marksNear 34 = .ok (.iconst 0, 1) := by decide +kernel
theorem dX4_marksNear_35 : decode cX4_marksNear 35 = .ok (.iadd, 1) := by decide +kernel
theorem dX4_marksNear_36 : decode cX4_marksNear 36 = .ok (.istore_n 2, 1) := by decide +kernel
theorem dX4_marksNear_37 : decode cX4_marksNear 37 = .ok (.iinc 3 1, 3) := by decide +kernel
theorem dX4_marksNear_40 : decode cX4_marksNear 40 = .ok (.goto (-36), 3) := by decide +kernel
theorem dX4_marksNear_43 : decode cX4_marksNear 43 = .ok (.iload_n 2, 1) := by decide +kernel
theorem dX4_marksNear_44 : decode cX4_marksNear 44 = .ok (.ireturn, 1) := by decide +kernel
theorem dX4_shortsBy_0 : decode cX4_shortsBy 0 = .ok (.iconst 0, 1) := by decide +kernel
theorem dX4_shortsBy_1 : decode cX4_shortsBy 1 = .ok (.istore_n 2, 1) := by decide +kernel
theorem dX4_shortsBy_2 : decode cX4_shortsBy 2 = .ok (.iconst 0, 1) := by decide +kernel
theorem dX4_shortsBy_3 : decode cX4_shortsBy 3 = .ok (.istore_n 3, 1) := by decide +kernel
theorem dX4_shortsBy_4 : decode cX4_shortsBy 4 = .ok (.iload_n 3, 1) := by decide +kernel
theorem dX4_shortsBy_5 : decode cX4_shortsBy 5 = .ok (.aload_n 0, 1) := by decide +kernel
theorem dX4_shortsBy_6 : decode cX4_shortsBy 6 = .ok (.getfield 9, 3) := by decide +kernel
theorem dX4_shortsBy_9 : decode cX4_shortsBy 9 = .ok (.if_icmp .ge 30, 3) := by decide +kernel
theorem dX4_shortsBy_12 : decode cX4_shortsBy 12 = .ok (.iload_n 2, 1) := by decide +kernel
theorem dX4_shortsBy_13 : decode cX4_shortsBy 13 = .ok (.bipush 100, 2) := by decide +kernel
theorem dX4_shortsBy_15 : decode cX4_shortsBy 15 = .ok (.aload_n 0, 1) := by decide +kernel
theorem dX4_shortsBy_16 : decode cX4_shortsBy 16 = .ok (.iload_n 3, 1) := by decide +kernel
theorem dX4_shortsBy_17 : decode cX4_shortsBy 17 = .ok (.iload_n 1, 1) := by decide +kernel
theorem dX4_shortsBy_18 : decode cX4_shortsBy 18 = .ok (.invokevirtual 96, 3) := by decide +kernel
theorem dX4_shortsBy_21 : decode cX4_shortsBy 21 = .ok (.imul, 1) := by decide +kernel
theorem dX4_shortsBy_22 : decode cX4_shortsBy 22 = .ok (.iload_n 1, 1) := by decide +kernel
theorem dX4_shortsBy_23 : decode cX4_shortsBy 23 = .ok (.if_icmp .le 7, 3) := by decide +kernel
theorem dX4_shortsBy_26 : decode cX4_shortsBy 26 = .ok (.iconst 1, 1) := by decide +kernel
theorem dX4_shortsBy_27 : decode cX4_shortsBy 27 = .ok (.goto 4, 3) := by decide +kernel
theorem dX4_shortsBy_30 : decode cX4_shortsBy 30 = .ok (.iconst 0, 1) := by decide +kernel
theorem dX4_shortsBy_31 : decode cX4_shortsBy 31 = .ok (.iadd, 1) := by decide +kernel
theorem dX4_shortsBy_32 : decode cX4_shortsBy 32 = .ok (.istore_n 2, 1) := by decide +kernel
theorem dX4_shortsBy_33 : decode cX4_shortsBy 33 = .ok (.iinc 3 1, 3) := by decide +kernel
theorem dX4_shortsBy_36 : decode cX4_shortsBy 36 = .ok (.goto (-32), 3) := by decide +kernel
theorem dX4_shortsBy_39 : decode cX4_shortsBy 39 = .ok (.iload_n 2, 1) := by decide +kernel
theorem dX4_shortsBy_40 : decode cX4_shortsBy 40 = .ok (.ireturn, 1) := by decide +kernel
theorem dX4_doublesBy_0 : decode cX4_doublesBy 0 = .ok (.iconst 0, 1) := by decide +kernel
theorem dX4_doublesBy_1 : decode cX4_doublesBy 1 = .ok (.istore_n 2, 1) := by decide +kernel
theorem dX4_doublesBy_2 : decode cX4_doublesBy 2 = .ok (.iconst 0, 1) := by decide +kernel
theorem dX4_doublesBy_3 : decode cX4_doublesBy 3 = .ok (.istore_n 3, 1) := by decide +kernel
theorem dX4_doublesBy_4 : decode cX4_doublesBy 4 = .ok (.iload_n 3, 1) := by decide +kernel
theorem dX4_doublesBy_5 : decode cX4_doublesBy 5 = .ok (.aload_n 0, 1) := by decide +kernel
theorem dX4_doublesBy_6 : decode cX4_doublesBy 6 = .ok (.getfield 9, 3) := by decide +kernel
theorem dX4_doublesBy_9 : decode cX4_doublesBy 9 = .ok (.if_icmp .ge 32, 3) := by decide +kernel
theorem dX4_doublesBy_12 : decode cX4_doublesBy 12 = .ok (.iload_n 2, 1) := by decide +kernel
theorem dX4_doublesBy_13 : decode cX4_doublesBy 13 = .ok (.aload_n 0, 1) := by decide +kernel
theorem dX4_doublesBy_14 : decode cX4_doublesBy 14 = .ok (.aload_n 0, 1) := by decide +kernel
theorem dX4_doublesBy_15 : decode cX4_doublesBy 15 = .ok (.iload_n 3, 1) := by decide +kernel
theorem dX4_doublesBy_16 : decode cX4_doublesBy 16 = .ok (.iload_n 1, 1) := by decide +kernel
theorem dX4_doublesBy_17 : decode cX4_doublesBy 17 = .ok (.invokevirtual 99, 3) := by decide +kernel
theorem dX4_doublesBy_20 : decode cX4_doublesBy 20 = .ok (.iload_n 1, 1) := by decide +kernel
theorem dX4_doublesBy_21 : decode cX4_doublesBy 21 = .ok (.invokevirtual 102, 3) := by decide +kernel
theorem dX4_doublesBy_24 : decode cX4_doublesBy 24 = .ok (.iload_n 3, 1) := by decide +kernel
theorem dX4_doublesBy_25 : decode cX4_doublesBy 25 = .ok (.if_icmp .ge 7, 3) := by decide +kernel
theorem dX4_doublesBy_28 : decode cX4_doublesBy 28 = .ok (.iconst 1, 1) := by decide +kernel
theorem dX4_doublesBy_29 : decode cX4_doublesBy 29 = .ok (.goto 4, 3) := by decide +kernel
theorem dX4_doublesBy_32 : decode cX4_doublesBy 32 = .ok (.iconst 0, 1) := by decide +kernel
theorem dX4_doublesBy_33 : decode cX4_doublesBy 33 = .ok (.iadd, 1) := by decide +kernel
theorem dX4_doublesBy_34 : decode cX4_doublesBy 34 = .ok (.istore_n 2, 1) := by decide +kernel
theorem dX4_doublesBy_35 : decode cX4_doublesBy 35 = .ok (.iinc 3 1, 3) := by decide +kernel
theorem dX4_doublesBy_38 : decode cX4_doublesBy 38 = .ok (.goto (-34), 3) := by decide +kernel
theorem dX4_doublesBy_41 : decode cX4_doublesBy 41 = .ok (.iload_n 2, 1) := by decide +kernel
theorem dX4_doublesBy_42 : decode cX4_doublesBy 42 = .ok (.ireturn, 1) := by decide +kernel
theorem dX4_lacksBy_0 : decode cX4_lacksBy 0 = .ok (.iconst 0, 1) := by decide +kernel
theorem dX4_lacksBy_1 : decode cX4_lacksBy 1 = .ok (.istore_n 2, 1) := by decide +kernel
theorem dX4_lacksBy_2 : decode cX4_lacksBy 2 = .ok (.aload_n 0, 1) := by decide +kernel
theorem dX4_lacksBy_3 : decode cX4_lacksBy 3 = .ok (.iload_n 1, 1) := by decide +kernel
theorem dX4_lacksBy_4 : decode cX4_lacksBy 4 = .ok (.invokevirtual 105, 3) := by decide +kernel
theorem dX4_lacksBy_7 : decode cX4_lacksBy 7 = .ok (.istore_n 3, 1) := by decide +kernel
theorem dX4_lacksBy_8 : decode cX4_lacksBy 8 = .ok (.iconst 0, 1) := by decide +kernel
theorem dX4_lacksBy_9 : decode cX4_lacksBy 9 = .ok (.istore 4, 2) := by decide +kernel
theorem dX4_lacksBy_11 : decode cX4_lacksBy 11 = .ok (.iload 4, 2) := by decide +kernel
theorem dX4_lacksBy_13 : decode cX4_lacksBy 13 = .ok (.iconst 5, 1) := by decide +kernel
theorem dX4_lacksBy_14 : decode cX4_lacksBy 14 = .ok (.if_icmp .gt 44, 3) := by decide +kernel
theorem dX4_lacksBy_17 : decode cX4_lacksBy 17 = .ok (.iconst 1, 1) := by decide +kernel
theorem dX4_lacksBy_18 : decode cX4_lacksBy 18 = .ok (.iload 4, 2) := by decide +kernel
theorem dX4_lacksBy_20 : decode cX4_lacksBy 20 = .ok (.ishl, 1) := by decide +kernel
theorem dX4_lacksBy_21 : decode cX4_lacksBy 21 = .ok (.iload_n 3, 1) := by decide +kernel
theorem dX4_lacksBy_22 : decode cX4_lacksBy 22 = .ok (.if_icmp .gt 36, 3) := by decide +kernel
theorem dX4_lacksBy_25 : decode cX4_lacksBy 25 = .ok (.iload_n 2, 1) := by decide +kernel
theorem dX4_lacksBy_26 : decode cX4_lacksBy 26 = .ok (.aload_n 0, 1) := by decide +kernel
theorem dX4_lacksBy_27 : decode cX4_lacksBy 27 = .ok (.iconst 1, 1) := by decide +kernel
theorem dX4_lacksBy_28 : decode cX4_lacksBy 28 = .ok (.iload 4, 2) := by decide +kernel
theorem dX4_lacksBy_30 : decode cX4_lacksBy 30 = .ok (.ishl, 1) := by decide +kernel
theorem dX4_lacksBy_31 : decode cX4_lacksBy 31 = .ok (.iload_n 1, 1) := by decide +kernel
theorem dX4_lacksBy_32 : decode cX4_lacksBy 32 = .ok (.invokevirtual 102, 3) := by decide +kernel
theorem dX4_lacksBy_35 : decode cX4_lacksBy 35 = .ok (.aload_n 0, 1) := by decide +kernel
theorem dX4_lacksBy_36 : decode cX4_lacksBy 36 = .ok (.getfield 9, 3) := by decide +kernel
theorem dX4_lacksBy_39 : decode cX4_lacksBy 39 = .ok (.if_icmp .ne 10, 3) := by decide +kernel
theorem dX4_lacksBy_42 : decode cX4_lacksBy 42 = .ok (.iconst 1, 1) := by decide +kernel
theorem dX4_lacksBy_43 : decode cX4_lacksBy 43 = .ok (.iload 4, 2) := by decide +kernel
theorem dX4_lacksBy_45 : decode cX4_lacksBy 45 = .ok (.ishl, 1) := by decide +kernel
theorem dX4_lacksBy_46 : decode cX4_lacksBy 46 = .ok (.goto 4, 3) := by decide +kernel
theorem dX4_lacksBy_49 : decode cX4_lacksBy 49 = .ok (.iconst 0, 1) := by decide +kernel
theorem dX4_lacksBy_50 : decode cX4_lacksBy 50 = .ok (.ior, 1) := by decide +kernel
theorem dX4_lacksBy_51 : decode cX4_lacksBy 51 = .ok (.istore_n 2, 1) := by decide +kernel
theorem dX4_lacksBy_52 : decode cX4_lacksBy 52 = .ok (.iinc 4 1, 3) := by decide +kernel
theorem dX4_lacksBy_55 : decode cX4_lacksBy 55 = .ok (.goto (-44), 3) := by decide +kernel
theorem dX4_lacksBy_58 : decode cX4_lacksBy 58 = .ok (.iload_n 2, 1) := by decide +kernel
theorem dX4_lacksBy_59 : decode cX4_lacksBy 59 = .ok (.ireturn, 1) := by decide +kernel
theorem dX4_greatestTimes_0 : decode cX4_greatestTimes 0 = .ok (.iconst 0, 1) := by decide +kernel
theorem dX4_greatestTimes_1 : decode cX4_greatestTimes 1 = .ok (.istore_n 2, 1) := by decide +kernel
theorem dX4_greatestTimes_2 : decode cX4_greatestTimes 2 = .ok (.iconst 0, 1) := by decide +kernel
theorem dX4_greatestTimes_3 : decode cX4_greatestTimes 3 = .ok (.istore_n 3, 1) := by decide +kernel
theorem dX4_greatestTimes_4 : decode cX4_greatestTimes 4 = .ok (.iload_n 3, 1) := by decide +kernel
theorem dX4_greatestTimes_5 : decode cX4_greatestTimes 5 = .ok (.aload_n 0, 1) := by decide +kernel
theorem dX4_greatestTimes_6 : decode cX4_greatestTimes 6 = .ok (.getfield 9, 3) := by decide +kernel
theorem dX4_greatestTimes_9 : decode cX4_greatestTimes 9 = .ok (.if_icmp .ge 20, 3) := by decide +kernel
theorem dX4_greatestTimes_12 : decode cX4_greatestTimes 12 = .ok (.iload_n 2, 1) := by decide +kernel
theorem dX4_greatestTimes_13 : decode cX4_greatestTimes 13 = .ok (.aload_n 0, 1) := by decide +kernel
theorem dX4_greatestTimes_14 : decode cX4_greatestTimes 14 = .ok (.iload_n 3, 1) := by decide +kernel
theorem dX4_greatestTimes_15 : decode cX4_greatestTimes 15 = .ok (.iload_n 1, 1) := by decide +kernel
theorem dX4_greatestTimes_16 : decode cX4_greatestTimes 16 = .ok (.invokevirtual 99, 3) := by decide +kernel
theorem dX4_greatestTimes_19 : decode cX4_greatestTimes 19 = .ok (.invokestatic 108, 3) := by decide +kernel
theorem dX4_greatestTimes_22 : decode cX4_greatestTimes 22 = .ok (.istore_n 2, 1) := by decide +kernel
theorem dX4_greatestTimes_23 : decode cX4_greatestTimes 23 = .ok (.iinc 3 1, 3) := by decide +kernel
theorem dX4_greatestTimes_26 : decode cX4_greatestTimes 26 = .ok (.goto (-22), 3) := by decide +kernel
theorem dX4_greatestTimes_29 : decode cX4_greatestTimes 29 = .ok (.iload_n 2, 1) := by decide +kernel
theorem dX4_greatestTimes_30 : decode cX4_greatestTimes 30 = .ok (.ireturn, 1) := by decide +kernel
theorem dX4_leastOfHeap_0 : decode cX4_leastOfHeap 0 = .ok (.lconst 1, 1) := by decide +kernel
theorem dX4_leastOfHeap_1 : decode cX4_leastOfHeap 1 = .ok (.iload_n 2, 1) := by decide +kernel
theorem dX4_leastOfHeap_2 : decode cX4_leastOfHeap 2 = .ok (.lshl, 1) := by decide +kernel
theorem dX4_leastOfHeap_3 : decode cX4_leastOfHeap 3 = .ok (.lstore 4, 2) := by decide +kernel
theorem dX4_leastOfHeap_5 : decode cX4_leastOfHeap 5 = .ok (.lconst 0, 1) := by decide +kernel
theorem dX4_leastOfHeap_6 : decode cX4_leastOfHeap 6 = .ok (.lstore 6, 2) := by decide +kernel
theorem dX4_leastOfHeap_8 : decode cX4_leastOfHeap 8 = .ok (.iconst 0, 1) := by decide +kernel
theorem dX4_leastOfHeap_9 : decode cX4_leastOfHeap 9 = .ok (.istore 8, 2) := by decide +kernel
theorem dX4_leastOfHeap_11 : decode cX4_leastOfHeap 11 = .ok (.iload 8, 2) := by decide +kernel
theorem dX4_leastOfHeap_13 : decode cX4_leastOfHeap 13 = .ok (.aload_n 0, 1) := by decide +kernel
theorem dX4_leastOfHeap_14 : decode cX4_leastOfHeap 14 = .ok (.getfield 9, 3) := by decide +kernel
theorem dX4_leastOfHeap_17 : decode cX4_leastOfHeap 17 = .ok (.if_icmp .ge 85, 3) := by decide +kernel
theorem dX4_leastOfHeap_20 : decode cX4_leastOfHeap 20 = .ok (.lload 4, 2) := by decide +kernel
theorem dX4_leastOfHeap_22 : decode cX4_leastOfHeap 22 = .ok (.lload 6, 2) := by decide +kernel
theorem dX4_leastOfHeap_24 : decode cX4_leastOfHeap 24 = .ok (.ldc2_w 113, 3) := by decide +kernel
theorem dX4_leastOfHeap_27 : decode cX4_leastOfHeap 27 = .ok (.lxor, 1) := by decide +kernel
theorem dX4_leastOfHeap_28 : decode cX4_leastOfHeap 28 = .ok (.land, 1) := by decide +kernel
theorem dX4_leastOfHeap_29 : decode cX4_leastOfHeap 29 = .ok (.invokestatic 115, 3) := by decide +kernel
theorem dX4_leastOfHeap_32 : decode cX4_leastOfHeap 32 = .ok (.istore 9, 2) := by decide +kernel
theorem dX4_leastOfHeap_34 : decode cX4_leastOfHeap 34 = .ok (.iload 9, 2) := by decide +kernel
theorem dX4_leastOfHeap_36 : decode cX4_leastOfHeap 36 = .ok (.iconst (-1), 1) := by decide +kernel
theorem dX4_leastOfHeap_37 : decode cX4_leastOfHeap 37 = .ok (.if_icmp .ne 6, 3) := by decide +kernel
theorem dX4_leastOfHeap_40 : decode cX4_leastOfHeap 40 = .ok (.goto 62, 3) := by decide +kernel
theorem dX4_leastOfHeap_43 : decode cX4_leastOfHeap 43 = .ok (.lload 6, 2) := by decide +kernel
theorem dX4_leastOfHeap_45 : decode cX4_leastOfHeap 45 = .ok (.lconst 1, 1) := by decide +kernel
theorem dX4_leastOfHeap_46 : decode cX4_leastOfHeap 46 = .ok (.iload 9, 2) := by decide +kernel
theorem dX4_leastOfHeap_48 : decode cX4_leastOfHeap 48 = .ok (.lshl, 1) := by decide +kernel
theorem dX4_leastOfHeap_49 : decode cX4_leastOfHeap 49 = .ok (.lor, 1) := by decide +kernel
theorem dX4_leastOfHeap_50 : decode cX4_leastOfHeap 50 = .ok (.lstore 6, 2) := by decide +kernel
theorem dX4_leastOfHeap_52 : decode cX4_leastOfHeap 52 = .ok (.iconst 0, 1) := by decide +kernel
theorem dX4_leastOfHeap_53 : decode cX4_leastOfHeap 53 = .ok (.istore 10, 2) := by decide +kernel
theorem dX4_leastOfHeap_55 : decode cX4_leastOfHeap 55 = .ok (.iload 10, 2) := by decide +kernel
theorem dX4_leastOfHeap_57 : decode cX4_leastOfHeap 57 = .ok (.aload_n 0, 1) := by decide +kernel
theorem dX4_leastOfHeap_58 : decode cX4_leastOfHeap 58 = .ok (.getfield 9, 3) := by decide +kernel
theorem dX4_leastOfHeap_61 : decode cX4_leastOfHeap 61 = .ok (.if_icmp .ge 35, 3) := by decide +kernel
theorem dX4_leastOfHeap_64 : decode cX4_leastOfHeap 64 = .ok (.lload 4, 2) := by decide +kernel
theorem dX4_leastOfHeap_66 : decode cX4_leastOfHeap 66 = .ok (.aload_n 0, 1) := by decide +kernel
theorem dX4_leastOfHeap_67 : decode cX4_leastOfHeap 67 = .ok (.aload_n 1, 1) := by decide +kernel
theorem dX4_leastOfHeap_68 : decode cX4_leastOfHeap 68 = .ok (.iload 9, 2) := by decide +kernel
theorem dX4_leastOfHeap_70 : decode cX4_leastOfHeap 70 = .ok (.iload 10, 2) := by decide +kernel
theorem dX4_leastOfHeap_72 : decode cX4_leastOfHeap 72 = .ok (.iload_n 3, 1) := by decide +kernel
theorem dX4_leastOfHeap_73 : decode cX4_leastOfHeap 73 = .ok (.invokevirtual 119, 3) := by decide +kernel
theorem dX4_leastOfHeap_76 : decode cX4_leastOfHeap 76 = .ok (.ifCond .eq 10, 3) := by decide +kernel
theorem dX4_leastOfHeap_79 : decode cX4_leastOfHeap 79 = .ok (.lconst 1, 1) := by decide +kernel
theorem dX4_leastOfHeap_80 : decode cX4_leastOfHeap 80 = .ok (.iload 10, 2) := by decide +kernel
theorem dX4_leastOfHeap_82 : decode cX4_leastOfHeap 82 = .ok (.lshl, 1) := by decide +kernel
theorem dX4_leastOfHeap_83 : decode cX4_leastOfHeap 83 = .ok (.goto 4, 3) := by decide +kernel
theorem dX4_leastOfHeap_86 : decode cX4_leastOfHeap 86 = .ok (.lconst 0, 1) := by decide +kernel
theorem dX4_leastOfHeap_87 : decode cX4_leastOfHeap 87 = .ok (.lor, 1) := by decide +kernel
theorem dX4_leastOfHeap_88 : decode cX4_leastOfHeap 88 = .ok (.lstore 4, 2) := by decide +kernel
theorem dX4_leastOfHeap_90 : decode cX4_leastOfHeap 90 = .ok (.iinc 10 1, 3) := by decide +kernel
theorem dX4_leastOfHeap_93 : decode cX4_leastOfHeap 93 = .ok (.goto (-38), 3) := by decide +kernel
theorem dX4_leastOfHeap_96 : decode cX4_leastOfHeap 96 = .ok (.iinc 8 1, 3) := by decide +kernel
theorem dX4_leastOfHeap_99 : decode cX4_leastOfHeap 99 = .ok (.goto (-88), 3) := by decide +kernel
theorem dX4_leastOfHeap_102 : decode cX4_leastOfHeap 102 = .ok (.aload_n 0, 1) := by decide +kernel
theorem dX4_leastOfHeap_103 : decode cX4_leastOfHeap 103 = .ok (.lload 4, 2) := by decide +kernel
theorem dX4_leastOfHeap_105 : decode cX4_leastOfHeap 105 = .ok (.invokestatic 115, 3) := by decide +kernel
theorem dX4_leastOfHeap_108 : decode cX4_leastOfHeap 108 = .ok (.invokevirtual 57, 3) := by decide +kernel
theorem dX4_leastOfHeap_111 : decode cX4_leastOfHeap 111 = .ok (.ireturn, 1) := by decide +kernel
theorem dX4_has_0 : decode cX4_has 0 = .ok (.iload_n 1, 1) := by decide +kernel
theorem dX4_has_1 : decode cX4_has 1 = .ok (.ifCond .lt 21, 3) := by decide +kernel
theorem dX4_has_4 : decode cX4_has 4 = .ok (.iload_n 1, 1) := by decide +kernel
theorem dX4_has_5 : decode cX4_has 5 = .ok (.aload_n 0, 1) := by decide +kernel
theorem dX4_has_6 : decode cX4_has 6 = .ok (.getfield 9, 3) := by decide +kernel
theorem dX4_has_9 : decode cX4_has 9 = .ok (.if_icmp .ge 13, 3) := by decide +kernel
theorem dX4_has_12 : decode cX4_has 12 = .ok (.iload_n 1, 1) := by decide +kernel
theorem dX4_has_13 : decode cX4_has 13 = .ok (.bipush 32, 2) := by decide +kernel
theorem dX4_has_15 : decode cX4_has 15 = .ok (.if_icmp .ge 7, 3) := by decide +kernel
theorem dX4_has_18 : decode cX4_has 18 = .ok (.iconst 1, 1) := by decide +kernel
theorem dX4_has_19 : decode cX4_has 19 = .ok (.goto 4, 3) := by decide +kernel
theorem dX4_has_22 : decode cX4_has 22 = .ok (.iconst 0, 1) := by decide +kernel
theorem dX4_has_23 : decode cX4_has 23 = .ok (.ireturn, 1) := by decide +kernel
theorem dX4_belongs_0 : decode cX4_belongs 0 = .ok (.aload_n 0, 1) := by decide +kernel
theorem dX4_belongs_1 : decode cX4_belongs 1 = .ok (.getfield 34, 3) := by decide +kernel
theorem dX4_belongs_4 : decode cX4_belongs 4 = .ok (.astore 4, 2) := by decide +kernel
theorem dX4_belongs_6 : decode cX4_belongs 6 = .ok (.iload_n 2, 1) := by decide +kernel
theorem dX4_belongs_7 : decode cX4_belongs 7 = .ok (.iconst 5, 1) := by decide +kernel
theorem dX4_belongs_8 : decode cX4_belongs 8 = .ok (.if_icmp .ne 33, 3) := by decide +kernel
theorem dX4_belongs_11 : decode cX4_belongs 11 = .ok (.aload 4, 2) := by decide +kernel
theorem dX4_belongs_13 : decode cX4_belongs 13 = .ok (.iload_n 1, 1) := by decide +kernel
theorem dX4_belongs_14 : decode cX4_belongs 14 = .ok (.bipush 9, 2) := by decide +kernel
theorem dX4_belongs_16 : decode cX4_belongs 16 = .ok (.invokevirtual 123, 3) := by decide +kernel
theorem dX4_belongs_19 : decode cX4_belongs 19 = .ok (.iconst 1, 1) := by decide +kernel
theorem dX4_belongs_20 : decode cX4_belongs 20 = .ok (.if_icmp .ne 19, 3) := by decide +kernel
theorem dX4_belongs_23 : decode cX4_belongs 23 = .ok (.aload 4, 2) := by decide +kernel
theorem dX4_belongs_25 : decode cX4_belongs 25 = .ok (.iload_n 1, 1) := by decide +kernel
theorem dX4_belongs_26 : decode cX4_belongs 26 = .ok (.bipush 10, 2) := by decide +kernel
theorem dX4_belongs_28 : decode cX4_belongs 28 = .ok (.invokevirtual 123, 3) := by decide +kernel
theorem dX4_belongs_31 : decode cX4_belongs 31 = .ok (.iload_n 3, 1) := by decide +kernel
theorem dX4_belongs_32 : decode cX4_belongs 32 = .ok (.if_icmp .ne 7, 3) := by decide +kernel
theorem dX4_belongs_35 : decode cX4_belongs 35 = .ok (.iconst 1, 1) := by decide +kernel
theorem dX4_belongs_36 : decode cX4_belongs 36 = .ok (.goto 4, 3) := by decide +kernel
theorem dX4_belongs_39 : decode cX4_belongs 39 = .ok (.iconst 0, 1) := by decide +kernel
theorem dX4_belongs_40 : decode cX4_belongs 40 = .ok (.ireturn, 1) := by decide +kernel
theorem dX4_belongs_41 : decode cX4_belongs 41 = .ok (.aload_n 0, 1) := by decide +kernel
theorem dX4_belongs_42 : decode cX4_belongs 42 = .ok (.getfield 126, 3) := by decide +kernel
theorem dX4_belongs_45 : decode cX4_belongs 45 = .ok (.aload 4, 2) := by decide +kernel
theorem dX4_belongs_47 : decode cX4_belongs 47 = .ok (.iload_n 1, 1) := by decide +kernel
theorem dX4_belongs_48 : decode cX4_belongs 48 = .ok (.invokevirtual 130, 3) := by decide +kernel
theorem dX4_belongs_51 : decode cX4_belongs 51 = .ok (.ifCond .ne 5, 3) := by decide +kernel
theorem dX4_belongs_54 : decode cX4_belongs 54 = .ok (.iconst 0, 1) := by decide +kernel
theorem dX4_belongs_55 : decode cX4_belongs 55 = .ok (.ireturn, 1) := by decide +kernel
theorem dX4_belongs_56 : decode cX4_belongs 56 = .ok (.iload_n 2, 1) := by decide +kernel
theorem dX4_belongs_57 : decode cX4_belongs 57 = .ok (.tableswitch 101 1 4 #[31, 48, 65, 83], 31) := by decide +kernel
theorem dX4_belongs_88 : decode cX4_belongs 88 = .ok (.aload 4, 2) := by decide +kernel
theorem dX4_belongs_90 : decode cX4_belongs 90 = .ok (.iload_n 1, 1) := by decide +kernel
theorem dX4_belongs_91 : decode cX4_belongs 91 = .ok (.iconst 4, 1) := by decide +kernel
theorem dX4_belongs_92 : decode cX4_belongs 92 = .ok (.invokevirtual 123, 3) := by decide +kernel
theorem dX4_belongs_95 : decode cX4_belongs 95 = .ok (.iload_n 3, 1) := by decide +kernel
theorem dX4_belongs_96 : decode cX4_belongs 96 = .ok (.if_icmp .ne 7, 3) := by decide +kernel
theorem dX4_belongs_99 : decode cX4_belongs 99 = .ok (.iconst 1, 1) := by decide +kernel
theorem dX4_belongs_100 : decode cX4_belongs 100 = .ok (.goto 4, 3) := by decide +kernel
theorem dX4_belongs_103 : decode cX4_belongs 103 = .ok (.iconst 0, 1) := by decide +kernel
theorem dX4_belongs_104 : decode cX4_belongs 104 = .ok (.ireturn, 1) := by decide +kernel
theorem dX4_belongs_105 : decode cX4_belongs 105 = .ok (.aload 4, 2) := by decide +kernel
theorem dX4_belongs_107 : decode cX4_belongs 107 = .ok (.iload_n 1, 1) := by decide +kernel
theorem dX4_belongs_108 : decode cX4_belongs 108 = .ok (.iconst 5, 1) := by decide +kernel
theorem dX4_belongs_109 : decode cX4_belongs 109 = .ok (.invokevirtual 123, 3) := by decide +kernel
theorem dX4_belongs_112 : decode cX4_belongs 112 = .ok (.iload_n 3, 1) := by decide +kernel
theorem dX4_belongs_113 : decode cX4_belongs 113 = .ok (.if_icmp .lt 7, 3) := by decide +kernel
theorem dX4_belongs_116 : decode cX4_belongs 116 = .ok (.iconst 1, 1) := by decide +kernel
theorem dX4_belongs_117 : decode cX4_belongs 117 = .ok (.goto 4, 3) := by decide +kernel
theorem dX4_belongs_120 : decode cX4_belongs 120 = .ok (.iconst 0, 1) := by decide +kernel
theorem dX4_belongs_121 : decode cX4_belongs 121 = .ok (.ireturn, 1) := by decide +kernel
theorem dX4_belongs_122 : decode cX4_belongs 122 = .ok (.aload 4, 2) := by decide +kernel
theorem dX4_belongs_124 : decode cX4_belongs 124 = .ok (.iload_n 1, 1) := by decide +kernel
theorem dX4_belongs_125 : decode cX4_belongs 125 = .ok (.bipush 6, 2) := by decide +kernel
theorem dX4_belongs_127 : decode cX4_belongs 127 = .ok (.invokevirtual 123, 3) := by decide +kernel
theorem dX4_belongs_130 : decode cX4_belongs 130 = .ok (.iload_n 3, 1) := by decide +kernel
theorem dX4_belongs_131 : decode cX4_belongs 131 = .ok (.if_icmp .ge 7, 3) := by decide +kernel
theorem dX4_belongs_134 : decode cX4_belongs 134 = .ok (.iconst 1, 1) := by decide +kernel
theorem dX4_belongs_135 : decode cX4_belongs 135 = .ok (.goto 4, 3) := by decide +kernel
theorem dX4_belongs_138 : decode cX4_belongs 138 = .ok (.iconst 0, 1) := by decide +kernel
theorem dX4_belongs_139 : decode cX4_belongs 139 = .ok (.ireturn, 1) := by decide +kernel
theorem dX4_belongs_140 : decode cX4_belongs 140 = .ok (.aload 4, 2) := by decide +kernel
theorem dX4_belongs_142 : decode cX4_belongs 142 = .ok (.iload_n 1, 1) := by decide +kernel
theorem dX4_belongs_143 : decode cX4_belongs 143 = .ok (.bipush 8, 2) := by decide +kernel
theorem dX4_belongs_145 : decode cX4_belongs 145 = .ok (.invokevirtual 123, 3) := by decide +kernel
theorem dX4_belongs_148 : decode cX4_belongs 148 = .ok (.iload_n 3, 1) := by decide +kernel
theorem dX4_belongs_149 : decode cX4_belongs 149 = .ok (.if_icmp .ne 7, 3) := by decide +kernel
theorem dX4_belongs_152 : decode cX4_belongs 152 = .ok (.iconst 1, 1) := by decide +kernel
theorem dX4_belongs_153 : decode cX4_belongs 153 = .ok (.goto 4, 3) := by decide +kernel
theorem dX4_belongs_156 : decode cX4_belongs 156 = .ok (.iconst 0, 1) := by decide +kernel
theorem dX4_belongs_157 : decode cX4_belongs 157 = .ok (.ireturn, 1) := by decide +kernel
theorem dX4_belongs_158 : decode cX4_belongs 158 = .ok (.iconst 1, 1) := by decide +kernel
theorem dX4_belongs_159 : decode cX4_belongs 159 = .ok (.ireturn, 1) := by decide +kernel
theorem dX4_lay_0 : decode cX4_lay 0 = .ok (.aload_n 0, 1) := by decide +kernel
theorem dX4_lay_1 : decode cX4_lay 1 = .ok (.getfield 9, 3) := by decide +kernel
theorem dX4_lay_4 : decode cX4_lay 4 = .ok (.istore_n 3, 1) := by decide +kernel
theorem dX4_lay_5 : decode cX4_lay 5 = .ok (.iload_n 3, 1) := by decide +kernel
theorem dX4_lay_6 : decode cX4_lay 6 = .ok (.ifCond .lt 9, 3) := by decide +kernel
theorem dX4_lay_9 : decode cX4_lay 9 = .ok (.iload_n 3, 1) := by decide +kernel
theorem dX4_lay_10 : decode cX4_lay 10 = .ok (.bipush 32, 2) := by decide +kernel
theorem dX4_lay_12 : decode cX4_lay 12 = .ok (.if_icmp .lt 4, 3) := by decide +kernel
theorem dX4_lay_15 : decode cX4_lay 15 = .ok (.return_, 1) := by decide +kernel
theorem dX4_lay_16 : decode cX4_lay 16 = .ok (.aload_n 1, 1) := by decide +kernel
theorem dX4_lay_17 : decode cX4_lay 17 = .ok (.getfield 34, 3) := by decide +kernel
theorem dX4_lay_20 : decode cX4_lay 20 = .ok (.astore 4, 2) := by decide +kernel
theorem dX4_lay_22 : decode cX4_lay 22 = .ok (.aload_n 0, 1) := by decide +kernel
theorem dX4_lay_23 : decode cX4_lay 23 = .ok (.getfield 22, 3) := by decide +kernel
theorem dX4_lay_26 : decode cX4_lay 26 = .ok (.iload_n 3, 1) := by decide +kernel
theorem dX4_lay_27 : decode cX4_lay 27 = .ok (.iload_n 2, 1) := by decide +kernel
theorem dX4_lay_28 : decode cX4_lay 28 = .ok (.iastore, 1) := by decide +kernel
theorem dX4_lay_29 : decode cX4_lay 29 = .ok (.aload_n 0, 1) := by decide +kernel
theorem dX4_lay_30 : decode cX4_lay 30 = .ok (.getfield 25, 3) := by decide +kernel
theorem dX4_lay_33 : decode cX4_lay 33 = .ok (.iload_n 3, 1) := by decide +kernel
theorem dX4_lay_34 : decode cX4_lay 34 = .ok (.aload 4, 2) := by decide +kernel
theorem dX4_lay_36 : decode cX4_lay 36 = .ok (.iload_n 2, 1) := by decide +kernel
theorem dX4_lay_37 : decode cX4_lay 37 = .ok (.bipush 7, 2) := by decide +kernel
theorem dX4_lay_39 : decode cX4_lay 39 = .ok (.invokevirtual 123, 3) := by decide +kernel
theorem dX4_lay_42 : decode cX4_lay 42 = .ok (.iastore, 1) := by decide +kernel
theorem dX4_lay_43 : decode cX4_lay 43 = .ok (.aload_n 0, 1) := by decide +kernel
theorem dX4_lay_44 : decode cX4_lay 44 = .ok (.getfield 28, 3) := by decide +kernel
theorem dX4_lay_47 : decode cX4_lay 47 = .ok (.iload_n 3, 1) := by decide +kernel
theorem dX4_lay_48 : decode cX4_lay 48 = .ok (.aload 4, 2) := by decide +kernel
theorem dX4_lay_50 : decode cX4_lay 50 = .ok (.iload_n 2, 1) := by decide +kernel
theorem dX4_lay_51 : decode cX4_lay 51 = .ok (.iconst 4, 1) := by decide +kernel
theorem dX4_lay_52 : decode cX4_lay 52 = .ok (.invokevirtual 123, 3) := by decide +kernel
theorem dX4_lay_55 : decode cX4_lay 55 = .ok (.iastore, 1) := by decide +kernel
theorem dX4_lay_56 : decode cX4_lay 56 = .ok (.aload_n 0, 1) := by decide +kernel
theorem dX4_lay_57 : decode cX4_lay 57 = .ok (.dup, 1) := by decide +kernel
theorem dX4_lay_58 : decode cX4_lay 58 = .ok (.getfield 9, 3) := by decide +kernel
theorem dX4_lay_61 : decode cX4_lay 61 = .ok (.iconst 1, 1) := by decide +kernel
theorem dX4_lay_62 : decode cX4_lay 62 = .ok (.iadd, 1) := by decide +kernel
theorem dX4_lay_63 : decode cX4_lay 63 = .ok (.putfield 9, 3) := by decide +kernel
theorem dX4_lay_66 : decode cX4_lay 66 = .ok (.aload_n 0, 1) := by decide +kernel
theorem dX4_lay_67 : decode cX4_lay 67 = .ok (.aload 4, 2) := by decide +kernel
theorem dX4_lay_69 : decode cX4_lay 69 = .ok (.aload_n 1, 1) := by decide +kernel
theorem dX4_lay_70 : decode cX4_lay 70 = .ok (.getfield 136, 3) := by decide +kernel
theorem dX4_lay_73 : decode cX4_lay 73 = .ok (.iload_n 3, 1) := by decide +kernel
theorem dX4_lay_74 : decode cX4_lay 74 = .ok (.invokevirtual 140, 3) := by decide +kernel
theorem dX4_lay_77 : decode cX4_lay 77 = .ok (.return_, 1) := by decide +kernel
theorem dX4_measure_0 : decode cX4_measure 0 = .ok (.aload_n 0, 1) := by decide +kernel
theorem dX4_measure_1 : decode cX4_measure 1 = .ok (.getfield 22, 3) := by decide +kernel
theorem dX4_measure_4 : decode cX4_measure 4 = .ok (.iload_n 3, 1) := by decide +kernel
theorem dX4_measure_5 : decode cX4_measure 5 = .ok (.iaload, 1) := by decide +kernel
theorem dX4_measure_6 : decode cX4_measure 6 = .ok (.istore 4, 2) := by decide +kernel
theorem dX4_measure_8 : decode cX4_measure 8 = .ok (.aload_n 0, 1) := by decide +kernel
theorem dX4_measure_9 : decode cX4_measure 9 = .ok (.aload_n 1, 1) := by decide +kernel
theorem dX4_measure_10 : decode cX4_measure 10 = .ok (.iload 4, 2) := by decide +kernel
theorem dX4_measure_12 : decode cX4_measure 12 = .ok (.invokevirtual 144, 3) := by decide +kernel
theorem dX4_measure_15 : decode cX4_measure 15 = .ok (.iconst 0, 1) := by decide +kernel
theorem dX4_measure_16 : decode cX4_measure 16 = .ok (.istore 5, 2) := by decide +kernel
theorem dX4_measure_18 : decode cX4_measure 18 = .ok (.iconst 0, 1) := by decide +kernel
theorem dX4_measure_19 : decode cX4_measure 19 = .ok (.istore 6, 2) := by decide +kernel
theorem dX4_measure_21 : decode cX4_measure 21 = .ok (.iconst 0, 1) := by decide +kernel
theorem dX4_measure_22 : decode cX4_measure 22 = .ok (.istore 7, 2) := by decide +kernel
theorem dX4_measure_24 : decode cX4_measure 24 = .ok (.iload 7, 2) := by decide +kernel
theorem dX4_measure_26 : decode cX4_measure 26 = .ok (.aload_n 2, 1) := by decide +kernel
theorem dX4_measure_27 : decode cX4_measure 27 = .ok (.getfield 148, 3) := by decide +kernel
theorem dX4_measure_30 : decode cX4_measure 30 = .ok (.if_icmp .ge 96, 3) := by decide +kernel
theorem dX4_measure_33 : decode cX4_measure 33 = .ok (.aload_n 2, 1) := by decide +kernel
theorem dX4_measure_34 : decode cX4_measure 34 = .ok (.iload 7, 2) := by decide +kernel
theorem dX4_measure_36 : decode cX4_measure 36 = .ok (.aload_n 0, 1) := by decide +kernel
theorem dX4_measure_37 : decode cX4_measure 37 = .ok (.getfield 31, 3) := by decide +kernel
theorem dX4_measure_40 : decode cX4_measure 40 = .ok (.invokevirtual 153, 3) := by decide +kernel
theorem dX4_measure_43 : decode cX4_measure 43 = .ok (.ifCond .ne 6, 3) := by decide +kernel
theorem dX4_measure_46 : decode cX4_measure 46 = .ok (.goto 74, 3) := by decide +kernel
theorem dX4_measure_49 : decode cX4_measure 49 = .ok (.aload_n 2, 1) := by decide +kernel
theorem dX4_measure_50 : decode cX4_measure 50 = .ok (.iload 7, 2) := by decide +kernel
theorem dX4_measure_52 : decode cX4_measure 52 = .ok (.invokevirtual 157, 3) := by decide +kernel
theorem dX4_measure_55 : decode cX4_measure 55 = .ok (.istore 8, 2) := by decide +kernel
theorem dX4_measure_57 : decode cX4_measure 57 = .ok (.iload 8, 2) := by decide +kernel
theorem dX4_measure_59 : decode cX4_measure 59 = .ok (.iconst 2, 1) := by decide +kernel
theorem dX4_measure_60 : decode cX4_measure 60 = .ok (.if_icmp .ne 6, 3) := by decide +kernel
theorem dX4_measure_63 : decode cX4_measure 63 = .ok (.goto 63, 3) := by decide +kernel
theorem dX4_measure_66 : decode cX4_measure 66 = .ok (.iload 5, 2) := by decide +kernel
theorem dX4_measure_68 : decode cX4_measure 68 = .ok (.iload 8, 2) := by decide +kernel
theorem dX4_measure_70 : decode cX4_measure 70 = .ok (.iconst 1, 1) := by decide +kernel
theorem dX4_measure_71 : decode cX4_measure 71 = .ok (.if_icmp .ne 13, 3) := by decide +kernel
theorem dX4_measure_74 : decode cX4_measure 74 = .ok (.aload_n 2, 1) := by decide +kernel
theorem dX4_measure_75 : decode cX4_measure 75 = .ok (.iload 7, 2) := by decide +kernel
theorem dX4_measure_77 : decode cX4_measure 77 = .ok (.invokevirtual 160, 3) := by decide +kernel
theorem dX4_measure_80 : decode cX4_measure 80 = .ok (.ineg, 1) := by decide +kernel
theorem dX4_measure_81 : decode cX4_measure 81 = .ok (.goto 9, 3) := by decide +kernel
theorem dX4_measure_84 : decode cX4_measure 84 = .ok (.aload_n 2, 1) := by decide +kernel
theorem dX4_measure_85 : decode cX4_measure 85 = .ok (.iload 7, 2) := by decide +kernel
theorem dX4_measure_87 : decode cX4_measure 87 = .ok (.invokevirtual 163, 3) := by decide +kernel
theorem dX4_measure_90 : decode cX4_measure 90 = .ok (.iadd, 1) := by decide +kernel
theorem dX4_measure_91 : decode cX4_measure 91 = .ok (.istore 5, 2) := by decide +kernel
theorem dX4_measure_93 : decode cX4_measure 93 = .ok (.iload 6, 2) := by decide +kernel
theorem dX4_measure_95 : decode cX4_measure 95 = .ok (.iload 8, 2) := by decide +kernel
theorem dX4_measure_97 : decode cX4_measure 97 = .ok (.iconst 1, 1) := by decide +kernel
theorem dX4_measure_98 : decode cX4_measure 98 = .ok (.if_icmp .ne 13, 3) := by decide +kernel
theorem dX4_measure_101 : decode cX4_measure 101 = .ok (.aload_n 2, 1) := by decide +kernel
theorem dX4_measure_102 : decode cX4_measure 102 = .ok (.iload 7, 2) := by decide +kernel
theorem dX4_measure_104 : decode cX4_measure 104 = .ok (.invokevirtual 163, 3) := by decide +kernel
theorem dX4_measure_107 : decode cX4_measure 107 = .ok (.ineg, 1) := by decide +kernel
theorem dX4_measure_108 : decode cX4_measure 108 = .ok (.goto 9, 3) := by decide +kernel
theorem dX4_measure_111 : decode cX4_measure 111 = .ok (.aload_n 2, 1) := by decide +kernel
theorem dX4_measure_112 : decode cX4_measure 112 = .ok (.iload 7, 2) := by decide +kernel
theorem dX4_measure_114 : decode cX4_measure 114 = .ok (.invokevirtual 160, 3) := by decide +kernel
theorem dX4_measure_117 : decode cX4_measure 117 = .ok (.iadd, 1) := by decide +kernel
theorem dX4_measure_118 : decode cX4_measure 118 = .ok (.istore 6, 2) := by decide +kernel
theorem dX4_measure_120 : decode cX4_measure 120 = .ok (.iinc 7 1, 3) := by decide +kernel
theorem dX4_measure_123 : decode cX4_measure 123 = .ok (.goto (-99), 3) := by decide +kernel
theorem dX4_measure_126 : decode cX4_measure 126 = .ok (.aload_n 1, 1) := by decide +kernel
theorem dX4_measure_127 : decode cX4_measure 127 = .ok (.iload 4, 2) := by decide +kernel
theorem dX4_measure_129 : decode cX4_measure 129 = .ok (.iconst 0, 1) := by decide +kernel
theorem dX4_measure_130 : decode cX4_measure 130 = .ok (.invokevirtual 123, 3) := by decide +kernel
theorem dX4_measure_133 : decode cX4_measure 133 = .ok (.aload_n 1, 1) := by decide +kernel
theorem dX4_measure_134 : decode cX4_measure 134 = .ok (.iload 4, 2) := by decide +kernel
theorem dX4_measure_136 : decode cX4_measure 136 = .ok (.iconst 3, 1) := by decide +kernel
theorem dX4_measure_137 : decode cX4_measure 137 = .ok (.invokevirtual 123, 3) := by decide +kernel
theorem dX4_measure_140 : decode cX4_measure 140 = .ok (.isub, 1) := by decide +kernel
theorem dX4_measure_141 : decode cX4_measure 141 = .ok (.istore 7, 2) := by decide +kernel
theorem dX4_measure_143 : decode cX4_measure 143 = .ok (.aload_n 0, 1) := by decide +kernel
theorem dX4_measure_144 : decode cX4_measure 144 = .ok (.getfield 15, 3) := by decide +kernel
theorem dX4_measure_147 : decode cX4_measure 147 = .ok (.iload_n 3, 1) := by decide +kernel
theorem dX4_measure_148 : decode cX4_measure 148 = .ok (.iload 7, 2) := by decide +kernel
theorem dX4_measure_150 : decode cX4_measure 150 = .ok (.iload 5, 2) := by decide +kernel
theorem dX4_measure_152 : decode cX4_measure 152 = .ok (.invokestatic 166, 3) := by decide +kernel
theorem dX4_measure_155 : decode cX4_measure 155 = .ok (.iastore, 1) := by decide +kernel
theorem dX4_measure_156 : decode cX4_measure 156 = .ok (.aload_n 0, 1) := by decide +kernel
theorem dX4_measure_157 : decode cX4_measure 157 = .ok (.getfield 19, 3) := by decide +kernel
theorem dX4_measure_160 : decode cX4_measure 160 = .ok (.iload_n 3, 1) := by decide +kernel
theorem dX4_measure_161 : decode cX4_measure 161 = .ok (.iload 7, 2) := by decide +kernel
theorem dX4_measure_163 : decode cX4_measure 163 = .ok (.iload 6, 2) := by decide +kernel
theorem dX4_measure_165 : decode cX4_measure 165 = .ok (.invokestatic 166, 3) := by decide +kernel
theorem dX4_measure_168 : decode cX4_measure 168 = .ok (.iastore, 1) := by decide +kernel
theorem dX4_measure_169 : decode cX4_measure 169 = .ok (.return_, 1) := by decide +kernel
theorem dX4_listTraits_0 : decode cX4_listTraits 0 = .ok (.aload_n 0, 1) := by decide +kernel
theorem dX4_listTraits_1 : decode cX4_listTraits 1 = .ok (.getfield 31, 3) := by decide +kernel
theorem dX4_listTraits_4 : decode cX4_listTraits 4 = .ok (.iconst 0, 1) := by decide +kernel
theorem dX4_listTraits_5 : decode cX4_listTraits 5 = .ok (.aload_n 1, 1) := by decide +kernel
theorem dX4_listTraits_6 : decode cX4_listTraits 6 = .ok (.iload_n 2, 1) := by decide +kernel
theorem dX4_listTraits_7 : decode cX4_listTraits 7 = .ok (.iconst 1, 1) := by decide +kernel
theorem dX4_listTraits_8 : decode cX4_listTraits 8 = .ok (.invokevirtual 123, 3) := by decide +kernel
theorem dX4_listTraits_11 : decode cX4_listTraits 11 = .ok (.iastore, 1) := by decide +kernel
theorem dX4_listTraits_12 : decode cX4_listTraits 12 = .ok (.aload_n 0, 1) := by decide +kernel
theorem dX4_listTraits_13 : decode cX4_listTraits 13 = .ok (.getfield 31, 3) := by decide +kernel
theorem dX4_listTraits_16 : decode cX4_listTraits 16 = .ok (.iconst 1, 1) := by decide +kernel
theorem dX4_listTraits_17 : decode cX4_listTraits 17 = .ok (.aload_n 1, 1) := by decide +kernel
theorem dX4_listTraits_18 : decode cX4_listTraits 18 = .ok (.iload_n 2, 1) := by decide +kernel
theorem dX4_listTraits_19 : decode cX4_listTraits 19 = .ok (.iconst 2, 1) := by decide +kernel
theorem dX4_listTraits_20 : decode cX4_listTraits 20 = .ok (.invokevirtual 123, 3) := by decide +kernel
theorem dX4_listTraits_23 : decode cX4_listTraits 23 = .ok (.iastore, 1) := by decide +kernel
theorem dX4_listTraits_24 : decode cX4_listTraits 24 = .ok (.aload_n 0, 1) := by decide +kernel
theorem dX4_listTraits_25 : decode cX4_listTraits 25 = .ok (.getfield 31, 3) := by decide +kernel
theorem dX4_listTraits_28 : decode cX4_listTraits 28 = .ok (.iconst 2, 1) := by decide +kernel
theorem dX4_listTraits_29 : decode cX4_listTraits 29 = .ok (.aload_n 1, 1) := by decide +kernel
theorem dX4_listTraits_30 : decode cX4_listTraits 30 = .ok (.iload_n 2, 1) := by decide +kernel
theorem dX4_listTraits_31 : decode cX4_listTraits 31 = .ok (.iconst 3, 1) := by decide +kernel
theorem dX4_listTraits_32 : decode cX4_listTraits 32 = .ok (.invokevirtual 123, 3) := by decide +kernel
theorem dX4_listTraits_35 : decode cX4_listTraits 35 = .ok (.iastore, 1) := by decide +kernel
theorem dX4_listTraits_36 : decode cX4_listTraits 36 = .ok (.aload_n 0, 1) := by decide +kernel
theorem dX4_listTraits_37 : decode cX4_listTraits 37 = .ok (.getfield 31, 3) := by decide +kernel
theorem dX4_listTraits_40 : decode cX4_listTraits 40 = .ok (.iconst 3, 1) := by decide +kernel
theorem dX4_listTraits_41 : decode cX4_listTraits 41 = .ok (.aload_n 1, 1) := by decide +kernel
theorem dX4_listTraits_42 : decode cX4_listTraits 42 = .ok (.iload_n 2, 1) := by decide +kernel
theorem dX4_listTraits_43 : decode cX4_listTraits 43 = .ok (.iconst 4, 1) := by decide +kernel
theorem dX4_listTraits_44 : decode cX4_listTraits 44 = .ok (.invokevirtual 123, 3) := by decide +kernel
theorem dX4_listTraits_47 : decode cX4_listTraits 47 = .ok (.iastore, 1) := by decide +kernel
theorem dX4_listTraits_48 : decode cX4_listTraits 48 = .ok (.aload_n 0, 1) := by decide +kernel
theorem dX4_listTraits_49 : decode cX4_listTraits 49 = .ok (.getfield 31, 3) := by decide +kernel
theorem dX4_listTraits_52 : decode cX4_listTraits 52 = .ok (.iconst 4, 1) := by decide +kernel
theorem dX4_listTraits_53 : decode cX4_listTraits 53 = .ok (.aload_n 1, 1) := by decide +kernel
theorem dX4_listTraits_54 : decode cX4_listTraits 54 = .ok (.iload_n 2, 1) := by decide +kernel
theorem dX4_listTraits_55 : decode cX4_listTraits 55 = .ok (.bipush 7, 2) := by decide +kernel
theorem dX4_listTraits_57 : decode cX4_listTraits 57 = .ok (.invokevirtual 123, 3) := by decide +kernel
theorem dX4_listTraits_60 : decode cX4_listTraits 60 = .ok (.iastore, 1) := by decide +kernel
theorem dX4_listTraits_61 : decode cX4_listTraits 61 = .ok (.aload_n 0, 1) := by decide +kernel
theorem dX4_listTraits_62 : decode cX4_listTraits 62 = .ok (.getfield 31, 3) := by decide +kernel
theorem dX4_listTraits_65 : decode cX4_listTraits 65 = .ok (.iconst 5, 1) := by decide +kernel
theorem dX4_listTraits_66 : decode cX4_listTraits 66 = .ok (.aload_n 1, 1) := by decide +kernel
theorem dX4_listTraits_67 : decode cX4_listTraits 67 = .ok (.iload_n 2, 1) := by decide +kernel
theorem dX4_listTraits_68 : decode cX4_listTraits 68 = .ok (.bipush 8, 2) := by decide +kernel
theorem dX4_listTraits_70 : decode cX4_listTraits 70 = .ok (.invokevirtual 123, 3) := by decide +kernel
theorem dX4_listTraits_73 : decode cX4_listTraits 73 = .ok (.iastore, 1) := by decide +kernel
theorem dX4_listTraits_74 : decode cX4_listTraits 74 = .ok (.aload_n 0, 1) := by decide +kernel
theorem dX4_listTraits_75 : decode cX4_listTraits 75 = .ok (.getfield 31, 3) := by decide +kernel
theorem dX4_listTraits_78 : decode cX4_listTraits 78 = .ok (.bipush 6, 2) := by decide +kernel
theorem dX4_listTraits_80 : decode cX4_listTraits 80 = .ok (.sipush 2000, 3) := by decide +kernel
theorem dX4_listTraits_83 : decode cX4_listTraits 83 = .ok (.aload_n 1, 1) := by decide +kernel
theorem dX4_listTraits_84 : decode cX4_listTraits 84 = .ok (.iload_n 2, 1) := by decide +kernel
theorem dX4_listTraits_85 : decode cX4_listTraits 85 = .ok (.bipush 6, 2) := by decide +kernel
theorem dX4_listTraits_87 : decode cX4_listTraits 87 = .ok (.invokevirtual 123, 3) := by decide +kernel
theorem dX4_listTraits_90 : decode cX4_listTraits 90 = .ok (.isub, 1) := by decide +kernel
theorem dX4_listTraits_91 : decode cX4_listTraits 91 = .ok (.iastore, 1) := by decide +kernel
theorem dX4_listTraits_92 : decode cX4_listTraits 92 = .ok (.return_, 1) := by decide +kernel
theorem dX4_firstWithTimes_0 : decode cX4_firstWithTimes 0 = .ok (.iconst 0, 1) := by decide +kernel
theorem dX4_firstWithTimes_1 : decode cX4_firstWithTimes 1 = .ok (.istore_n 3, 1) := by decide +kernel
theorem dX4_firstWithTimes_2 : decode cX4_firstWithTimes 2 = .ok (.iload_n 3, 1) := by decide +kernel
theorem dX4_firstWithTimes_3 : decode cX4_firstWithTimes 3 = .ok (.aload_n 0, 1) := by decide +kernel
theorem dX4_firstWithTimes_4 : decode cX4_firstWithTimes 4 = .ok (.getfield 9, 3) := by decide +kernel
theorem dX4_firstWithTimes_7 : decode cX4_firstWithTimes 7 = .ok (.if_icmp .ge 21, 3) := by decide +kernel
theorem dX4_firstWithTimes_10 : decode cX4_firstWithTimes 10 = .ok (.aload_n 0, 1) := by decide +kernel
theorem dX4_firstWithTimes_11 : decode cX4_firstWithTimes 11 = .ok (.iload_n 3, 1) := by decide +kernel
theorem dX4_firstWithTimes_12 : decode cX4_firstWithTimes 12 = .ok (.iload_n 2, 1) := by decide +kernel
theorem dX4_firstWithTimes_13 : decode cX4_firstWithTimes 13 = .ok (.invokevirtual 99, 3) := by decide +kernel
theorem dX4_firstWithTimes_16 : decode cX4_firstWithTimes 16 = .ok (.iload_n 1, 1) := by decide +kernel
theorem dX4_firstWithTimes_17 : decode cX4_firstWithTimes 17 = .ok (.if_icmp .ne 5, 3) := by decide +kernel
theorem dX4_firstWithTimes_20 : decode cX4_firstWithTimes 20 = .ok (.iload_n 3, 1) := by decide +kernel
theorem dX4_firstWithTimes_21 : decode cX4_firstWithTimes 21 = .ok (.ireturn, 1) := by decide +kernel
theorem dX4_firstWithTimes_22 : decode cX4_firstWithTimes 22 = .ok (.iinc 3 1, 3) := by decide +kernel
theorem dX4_firstWithTimes_25 : decode cX4_firstWithTimes 25 = .ok (.goto (-23), 3) := by decide +kernel
theorem dX4_firstWithTimes_28 : decode cX4_firstWithTimes 28 = .ok (.aload_n 0, 1) := by decide +kernel
theorem dX4_firstWithTimes_29 : decode cX4_firstWithTimes 29 = .ok (.getfield 9, 3) := by decide +kernel
theorem dX4_firstWithTimes_32 : decode cX4_firstWithTimes 32 = .ok (.ireturn, 1) := by decide +kernel
theorem dX4_firstIn_0 : decode cX4_firstIn 0 = .ok (.iconst 0, 1) := by decide +kernel
theorem dX4_firstIn_1 : decode cX4_firstIn 1 = .ok (.istore_n 2, 1) := by decide +kernel
theorem dX4_firstIn_2 : decode cX4_firstIn 2 = .ok (.iload_n 2, 1) := by decide +kernel
theorem dX4_firstIn_3 : decode cX4_firstIn 3 = .ok (.bipush 32, 2) := by decide +kernel
theorem dX4_firstIn_5 : decode cX4_firstIn 5 = .ok (.if_icmp .ge 21, 3) := by decide +kernel
theorem dX4_firstIn_8 : decode cX4_firstIn 8 = .ok (.lload_n 0, 1) := by decide +kernel
theorem dX4_firstIn_9 : decode cX4_firstIn 9 = .ok (.iload_n 2, 1) := by decide +kernel
theorem dX4_firstIn_10 : decode cX4_firstIn 10 = .ok (.lshr, 1) := by decide +kernel
theorem dX4_firstIn_11 : decode cX4_firstIn 11 = .ok (.lconst 1, 1) := by decide +kernel
theorem dX4_firstIn_12 : decode cX4_firstIn 12 = .ok (.land, 1) := by decide +kernel
theorem dX4_firstIn_13 : decode cX4_firstIn 13 = .ok (.lconst 1, 1) := by decide +kernel
theorem dX4_firstIn_14 : decode cX4_firstIn 14 = .ok (.lcmp, 1) := by decide +kernel
theorem dX4_firstIn_15 : decode cX4_firstIn 15 = .ok (.ifCond .ne 5, 3) := by decide +kernel
theorem dX4_firstIn_18 : decode cX4_firstIn 18 = .ok (.iload_n 2, 1) := by decide +kernel
theorem dX4_firstIn_19 : decode cX4_firstIn 19 = .ok (.ireturn, 1) := by decide +kernel
theorem dX4_firstIn_20 : decode cX4_firstIn 20 = .ok (.iinc 2 1, 3) := by decide +kernel
theorem dX4_firstIn_23 : decode cX4_firstIn 23 = .ok (.goto (-21), 3) := by decide +kernel
theorem dX4_firstIn_26 : decode cX4_firstIn 26 = .ok (.iconst (-1), 1) := by decide +kernel
theorem dX4_firstIn_27 : decode cX4_firstIn 27 = .ok (.ireturn, 1) := by decide +kernel
theorem dX4_areTwins_0 : decode cX4_areTwins 0 = .ok (.aload_n 0, 1) := by decide +kernel
theorem dX4_areTwins_1 : decode cX4_areTwins 1 = .ok (.iload_n 2, 1) := by decide +kernel
theorem dX4_areTwins_2 : decode cX4_areTwins 2 = .ok (.invokevirtual 57, 3) := by decide +kernel
theorem dX4_areTwins_5 : decode cX4_areTwins 5 = .ok (.istore 5, 2) := by decide +kernel
theorem dX4_areTwins_7 : decode cX4_areTwins 7 = .ok (.aload_n 0, 1) := by decide +kernel
theorem dX4_areTwins_8 : decode cX4_areTwins 8 = .ok (.iload_n 3, 1) := by decide +kernel
theorem dX4_areTwins_9 : decode cX4_areTwins 9 = .ok (.invokevirtual 57, 3) := by decide +kernel
theorem dX4_areTwins_12 : decode cX4_areTwins 12 = .ok (.istore 6, 2) := by decide +kernel
theorem dX4_areTwins_14 : decode cX4_areTwins 14 = .ok (.aload_n 1, 1) := by decide +kernel
theorem dX4_areTwins_15 : decode cX4_areTwins 15 = .ok (.iload 5, 2) := by decide +kernel
theorem dX4_areTwins_17 : decode cX4_areTwins 17 = .ok (.iconst 4, 1) := by decide +kernel
theorem dX4_areTwins_18 : decode cX4_areTwins 18 = .ok (.invokevirtual 123, 3) := by decide +kernel
theorem dX4_areTwins_21 : decode cX4_areTwins 21 = .ok (.aload_n 1, 1) := by decide +kernel
theorem dX4_areTwins_22 : decode cX4_areTwins 22 = .ok (.iload 6, 2) := by decide +kernel
theorem dX4_areTwins_24 : decode cX4_areTwins 24 = .ok (.iconst 4, 1) := by decide +kernel
theorem dX4_areTwins_25 : decode cX4_areTwins 25 = .ok (.invokevirtual 123, 3) := by decide +kernel
theorem dX4_areTwins_28 : decode cX4_areTwins 28 = .ok (.if_icmp .ne 66, 3) := by decide +kernel
theorem dX4_areTwins_31 : decode cX4_areTwins 31 = .ok (.aload_n 1, 1) := by decide +kernel
theorem dX4_areTwins_32 : decode cX4_areTwins 32 = .ok (.iload 5, 2) := by decide +kernel
theorem dX4_areTwins_34 : decode cX4_areTwins 34 = .ok (.iconst 1, 1) := by decide +kernel
theorem dX4_areTwins_35 : decode cX4_areTwins 35 = .ok (.invokevirtual 123, 3) := by decide +kernel
theorem dX4_areTwins_38 : decode cX4_areTwins 38 = .ok (.aload_n 1, 1) := by decide +kernel
theorem dX4_areTwins_39 : decode cX4_areTwins 39 = .ok (.iload 6, 2) := by decide +kernel
theorem dX4_areTwins_41 : decode cX4_areTwins 41 = .ok (.iconst 1, 1) := by decide +kernel
theorem dX4_areTwins_42 : decode cX4_areTwins 42 = .ok (.invokevirtual 123, 3) := by decide +kernel
theorem dX4_areTwins_45 : decode cX4_areTwins 45 = .ok (.if_icmp .ne 49, 3) := by decide +kernel
theorem dX4_areTwins_48 : decode cX4_areTwins 48 = .ok (.aload_n 1, 1) := by decide +kernel
theorem dX4_areTwins_49 : decode cX4_areTwins 49 = .ok (.iload 5, 2) := by decide +kernel
theorem dX4_areTwins_51 : decode cX4_areTwins 51 = .ok (.bipush 7, 2) := by decide +kernel
theorem dX4_areTwins_53 : decode cX4_areTwins 53 = .ok (.invokevirtual 123, 3) := by decide +kernel
theorem dX4_areTwins_56 : decode cX4_areTwins 56 = .ok (.aload_n 1, 1) := by decide +kernel
theorem dX4_areTwins_57 : decode cX4_areTwins 57 = .ok (.iload 6, 2) := by decide +kernel
theorem dX4_areTwins_59 : decode cX4_areTwins 59 = .ok (.bipush 7, 2) := by decide +kernel
theorem dX4_areTwins_61 : decode cX4_areTwins 61 = .ok (.invokevirtual 123, 3) := by decide +kernel
theorem dX4_areTwins_64 : decode cX4_areTwins 64 = .ok (.if_icmp .ne 30, 3) := by decide +kernel
theorem dX4_areTwins_67 : decode cX4_areTwins 67 = .ok (.aload_n 1, 1) := by decide +kernel
theorem dX4_areTwins_68 : decode cX4_areTwins 68 = .ok (.iload 5, 2) := by decide +kernel
theorem dX4_areTwins_70 : decode cX4_areTwins 70 = .ok (.iconst 0, 1) := by decide +kernel
theorem dX4_areTwins_71 : decode cX4_areTwins 71 = .ok (.invokevirtual 123, 3) := by decide +kernel
theorem dX4_areTwins_74 : decode cX4_areTwins 74 = .ok (.aload_n 1, 1) := by decide +kernel
theorem dX4_areTwins_75 : decode cX4_areTwins 75 = .ok (.iload 6, 2) := by decide +kernel
theorem dX4_areTwins_77 : decode cX4_areTwins 77 = .ok (.iconst 0, 1) := by decide +kernel
theorem dX4_areTwins_78 : decode cX4_areTwins 78 = .ok (.invokevirtual 123, 3) := by decide +kernel
theorem dX4_areTwins_81 : decode cX4_areTwins 81 = .ok (.isub, 1) := by decide +kernel
theorem dX4_areTwins_82 : decode cX4_areTwins 82 = .ok (.invokestatic 169, 3) := by decide +kernel
theorem dX4_areTwins_85 : decode cX4_areTwins 85 = .ok (.iload 4, 2) := by decide +kernel
theorem dX4_areTwins_87 : decode cX4_areTwins 87 = .ok (.if_icmp .gt 7, 3) := by decide +kernel
theorem dX4_areTwins_90 : decode cX4_areTwins 90 = .ok (.iconst 1, 1) := by decide +kernel
theorem dX4_areTwins_91 : decode cX4_areTwins 91 = .ok (.goto 4, 3) := by decide +kernel
theorem dX4_areTwins_94 : decode cX4_areTwins 94 = .ok (.iconst 0, 1) := by decide +kernel
theorem dX4_areTwins_95 : decode cX4_areTwins 95 = .ok (.ireturn, 1) := by decide +kernel
theorem dX5_init_0 : decode cX5_init 0 = .ok (.aload_n 0, 1) := by decide +kernel
theorem dX5_init_1 : decode cX5_init 1 = .ok (.invokespecial 3, 3) := by decide +kernel
theorem dX5_init_4 : decode cX5_init 4 = .ok (.aload_n 0, 1) := by decide +kernel
theorem dX5_init_5 : decode cX5_init 5 = .ok (.new 9, 3) := by decide +kernel
theorem dX5_init_8 : decode cX5_init 8 = .ok (.dup, 1) := by decide +kernel
theorem dX5_init_9 : decode cX5_init 9 = .ok (.invokespecial 11, 3) := by decide +kernel
theorem dX5_init_12 : decode cX5_init 12 = .ok (.putfield 12, 3) := by decide +kernel
theorem dX5_init_15 : decode cX5_init 15 = .ok (.aload_n 0, 1) := by decide +kernel
theorem dX5_init_16 : decode cX5_init 16 = .ok (.iconst 0, 1) := by decide +kernel
theorem dX5_init_17 : decode cX5_init 17 = .ok (.putfield 18, 3) := by decide +kernel
theorem dX5_init_20 : decode cX5_init 20 = .ok (.aload_n 0, 1) := by decide +kernel
theorem dX5_init_21 : decode cX5_init 21 = .ok (.iconst (-1), 1) := by decide +kernel
theorem dX5_init_22 : decode cX5_init 22 = .ok (.putfield 22, 3) := by decide +kernel
theorem dX5_init_25 : decode cX5_init 25 = .ok (.aload_n 0, 1) := by decide +kernel
theorem dX5_init_26 : decode cX5_init 26 = .ok (.iconst 0, 1) := by decide +kernel
theorem dX5_init_27 : decode cX5_init 27 = .ok (.putfield 25, 3) := by decide +kernel
theorem dX5_init_30 : decode cX5_init 30 = .ok (.aload_n 0, 1) := by decide +kernel
theorem dX5_init_31 : decode cX5_init 31 = .ok (.iconst 0, 1) := by decide +kernel
theorem dX5_init_32 : decode cX5_init 32 = .ok (.putfield 29, 3) := by decide +kernel
theorem dX5_init_35 : decode cX5_init 35 = .ok (.aload_n 0, 1) := by decide +kernel
theorem dX5_init_36 : decode cX5_init 36 = .ok (.iconst 0, 1) := by decide +kernel
theorem dX5_init_37 : decode cX5_init 37 = .ok (.putfield 32, 3) := by decide +kernel
theorem dX5_init_40 : decode cX5_init 40 = .ok (.aload_n 0, 1) := by decide +kernel
theorem dX5_init_41 : decode cX5_init 41 = .ok (.iconst 0, 1) := by decide +kernel
theorem dX5_init_42 : decode cX5_init 42 = .ok (.putfield 35, 3) := by decide +kernel
theorem dX5_init_45 : decode cX5_init 45 = .ok (.aload_n 0, 1) := by decide +kernel
theorem dX5_init_46 : decode cX5_init 46 = .ok (.aload_n 1, 1) := by decide +kernel
theorem dX5_init_47 : decode cX5_init 47 = .ok (.putfield 38, 3) := by decide +kernel
theorem dX5_init_50 : decode cX5_init 50 = .ok (.return_, 1) := by decide +kernel
theorem dX5_read_0 : decode cX5_read 0 = .ok (.aload_n 0, 1) := by decide +kernel
theorem dX5_read_1 : decode cX5_read 1 = .ok (.iload_n 1, 1) := by decide +kernel
theorem dX5_read_2 : decode cX5_read 2 = .ok (.putfield 25, 3) := by decide +kernel
theorem dX5_read_5 : decode cX5_read 5 = .ok (.aload_n 0, 1) := by decide +kernel
theorem dX5_read_6 : decode cX5_read 6 = .ok (.iconst 0, 1) := by decide +kernel
theorem dX5_read_7 : decode cX5_read 7 = .ok (.putfield 18, 3) := by decide +kernel
theorem dX5_read_10 : decode cX5_read 10 = .ok (.aload_n 0, 1) := by decide +kernel
theorem dX5_read_11 : decode cX5_read 11 = .ok (.iconst (-1), 1) := by decide +kernel
theorem dX5_read_12 : decode cX5_read 12 = .ok (.putfield 22, 3) := by decide +kernel
theorem dX5_read_15 : decode cX5_read 15 = .ok (.aload_n 0, 1) := by decide +kernel
theorem dX5_read_16 : decode cX5_read 16 = .ok (.getfield 12, 3) := by decide +kernel
theorem dX5_read_19 : decode cX5_read 19 = .ok (.iconst 0, 1) := by decide +kernel
theorem dX5_read_20 : decode cX5_read 20 = .ok (.putfield 42, 3) := by decide +kernel
theorem dX5_read_23 : decode cX5_read 23 = .ok (.aload_n 0, 1) := by decide +kernel
theorem dX5_read_24 : decode cX5_read 24 = .ok (.iconst 0, 1) := by decide +kernel
theorem dX5_read_25 : decode cX5_read 25 = .ok (.putfield 35, 3) := by decide +kernel
theorem dX5_read_28 : decode cX5_read 28 = .ok (.aload_n 0, 1) := by decide +kernel
theorem dX5_read_29 : decode cX5_read 29 = .ok (.invokevirtual 45, 3) := by decide +kernel
theorem dX5_read_32 : decode cX5_read 32 = .ok (.iconst 0, 1) := by decide +kernel
theorem dX5_read_33 : decode cX5_read 33 = .ok (.istore_n 2, 1) := by decide +kernel
theorem dX5_read_34 : decode cX5_read 34 = .ok (.aload_n 0, 1) := by decide +kernel
theorem dX5_read_35 : decode cX5_read 35 = .ok (.getfield 29, 3) := by decide +kernel
theorem dX5_read_38 : decode cX5_read 38 = .ok (.ifCond .eq 41, 3) := by decide +kernel
theorem dX5_read_41 : decode cX5_read 41 = .ok (.iload_n 2, 1) := by decide +kernel
theorem dX5_read_42 : decode cX5_read 42 = .ok (.sipush 500, 3) := by decide +kernel
theorem dX5_read_45 : decode cX5_read 45 = .ok (.if_icmp .ge 34, 3) := by decide +kernel
theorem dX5_read_48 : decode cX5_read 48 = .ok (.iload_n 2, 1) := by decide +kernel
theorem dX5_read_49 : decode cX5_read 49 = .ok (.bipush 16, 2) := by decide +kernel
theorem dX5_read_51 : decode cX5_read 51 = .ok (.if_icmp .ne 12, 3) := by decide +kernel
theorem dX5_read_54 : decode cX5_read 54 = .ok (.aload_n 0, 1) := by decide +kernel
theorem dX5_read_55 : decode cX5_read 55 = .ok (.iconst 3, 1) := by decide +kernel
theorem dX5_read_56 : decode cX5_read 56 = .ok (.aload_n 0, 1) := by decide +kernel
theorem dX5_read_57 : decode cX5_read 57 = .ok (.getfield 32, 3) := by decide +kernel
theorem dX5_read_60 : decode cX5_read 60 = .ok (.invokevirtual 48, 3) := by decide +kernel
theorem dX5_read_63 : decode cX5_read 63 = .ok (.aload_n 0, 1) := by decide +kernel
theorem dX5_read_64 : decode cX5_read 64 = .ok (.iload_n 2, 1) := by decide +kernel
theorem dX5_read_65 : decode cX5_read 65 = .ok (.invokevirtual 52, 3) := by decide +kernel
theorem dX5_read_68 : decode cX5_read 68 = .ok (.ifCond .ne 5, 3) := by decide +kernel
theorem dX5_read_71 : decode cX5_read 71 = .ok (.iconst 0, 1) := by decide +kernel
theorem dX5_read_72 : decode cX5_read 72 = .ok (.ireturn, 1) := by decide +kernel
theorem dX5_read_73 : decode cX5_read 73 = .ok (.iinc 2 1, 3) := by decide +kernel
theorem dX5_read_76 : decode cX5_read 76 = .ok (.goto (-42), 3) := by decide +kernel
theorem dX5_read_79 : decode cX5_read 79 = .ok (.aload_n 0, 1) := by decide +kernel
theorem dX5_read_80 : decode cX5_read 80 = .ok (.getfield 12, 3) := by decide +kernel
theorem dX5_read_83 : decode cX5_read 83 = .ok (.iload_n 2, 1) := by decide +kernel
theorem dX5_read_84 : decode cX5_read 84 = .ok (.bipush 16, 2) := by decide +kernel
theorem dX5_read_86 : decode cX5_read 86 = .ok (.invokestatic 56, 3) := by decide +kernel
theorem dX5_read_89 : decode cX5_read 89 = .ok (.putfield 42, 3) := by decide +kernel
theorem dX5_read_92 : decode cX5_read 92 = .ok (.aload_n 0, 1) := by decide +kernel
theorem dX5_read_93 : decode cX5_read 93 = .ok (.getfield 18, 3) := by decide +kernel
theorem dX5_read_96 : decode cX5_read 96 = .ok (.ifCond .ne 7, 3) := by decide +kernel
theorem dX5_read_99 : decode cX5_read 99 = .ok (.iconst 1, 1) := by decide +kernel
theorem dX5_read_100 : decode cX5_read 100 = .ok (.goto 4, 3) := by decide +kernel
theorem dX5_read_103 : decode cX5_read 103 = .ok (.iconst 0, 1) := by decide +kernel
theorem dX5_read_104 : decode cX5_read 104 = .ok (.ireturn, 1) := by decide +kernel
theorem dX5_readLine_0 : decode cX5_readLine 0 = .ok (.aload_n 0, 1) := by decide +kernel
theorem dX5_readLine_1 : decode cX5_readLine 1 = .ok (.getfield 12, 3) := by decide +kernel
theorem dX5_readLine_4 : decode cX5_readLine 4 = .ok (.iload_n 1, 1) := by decide +kernel
theorem dX5_readLine_5 : decode cX5_readLine 5 = .ok (.invokevirtual 62, 3) := by decide +kernel
theorem dX5_readLine_8 : decode cX5_readLine 8 = .ok (.aload_n 0, 1) := by decide +kernel
theorem dX5_readLine_9 : decode cX5_readLine 9 = .ok (.ldc 66, 2) := by decide +kernel
theorem dX5_readLine_11 : decode cX5_readLine 11 = .ok (.invokevirtual 68, 3) := by decide +kernel
theorem dX5_readLine_14 : decode cX5_readLine 14 = .ok (.ifCond .ne 13, 3) := by decide +kernel
theorem dX5_readLine_17 : decode cX5_readLine 17 = .ok (.aload_n 0, 1) := by decide +kernel
theorem dX5_readLine_18 : decode cX5_readLine 18 = .ok (.iload_n 1, 1) := by decide +kernel
theorem dX5_readLine_19 : decode cX5_readLine 19 = .ok (.invokevirtual 72, 3) := by decide +kernel
theorem dX5_readLine_22 : decode cX5_readLine 22 = .ok (.ifCond .ne 5, 3) := by decide +kernel
theorem dX5_readLine_25 : decode cX5_readLine 25 = .ok (.iconst 0, 1) := by decide +kernel
theorem dX5_readLine_26 : decode cX5_readLine 26 = .ok (.ireturn, 1) := by decide +kernel
theorem dX5_readLine_27 : decode cX5_readLine 27 = .ok (.aload_n 0, 1) := by decide +kernel
theorem dX5_readLine_28 : decode cX5_readLine 28 = .ok (.iload_n 1, 1) := by decide +kernel
theorem dX5_readLine_29 : decode cX5_readLine 29 = .ok (.invokevirtual 75, 3) := by decide +kernel
theorem dX5_readLine_32 : decode cX5_readLine 32 = .ok (.ifCond .eq 16, 3) := by decide +kernel
theorem dX5_readLine_35 : decode cX5_readLine 35 = .ok (.aload_n 0, 1) := by decide +kernel
theorem dX5_readLine_36 : decode cX5_readLine 36 = .ok (.bipush 59, 2) := by decide +kernel
theorem dX5_readLine_38 : decode cX5_readLine 38 = .ok (.invokevirtual 78, 3) := by decide +kernel
theorem dX5_readLine_41 : decode cX5_readLine 41 = .ok (.ifCond .eq 7, 3) := by decide +kernel
theorem dX5_readLine_44 : decode cX5_readLine 44 = .ok (.iconst 1, 1) := by decide +kernel
theorem dX5_readLine_45 : decode cX5_readLine 45 = .ok (.goto 4, 3) := by decide +kernel
theorem dX5_readLine_48 : decode cX5_readLine 48 = .ok (.iconst 0, 1) := by decide +kernel
theorem dX5_readLine_49 : decode cX5_readLine 49 = .ok (.ireturn, 1) := by decide +kernel
theorem dX5_readTests_0 : decode cX5_readTests 0 = .ok (.iconst 0, 1) := by decide +kernel
theorem dX5_readTests_1 : decode cX5_readTests 1 = .ok (.istore_n 2, 1) := by decide +kernel
theorem dX5_readTests_2 : decode cX5_readTests 2 = .ok (.aload_n 0, 1) := by decide +kernel
theorem dX5_readTests_3 : decode cX5_readTests 3 = .ok (.invokevirtual 45, 3) := by decide +kernel
theorem dX5_readTests_6 : decode cX5_readTests 6 = .ok (.iload_n 2, 1) := by decide +kernel
theorem dX5_readTests_7 : decode cX5_readTests 7 = .ok (.iconst 4, 1) := by decide +kernel
theorem dX5_readTests_8 : decode cX5_readTests 8 = .ok (.if_icmp .ne 12, 3) := by decide +kernel
theorem dX5_readTests_11 : decode cX5_readTests 11 = .ok (.aload_n 0, 1) := by decide +kernel
theorem dX5_readTests_12 : decode cX5_readTests 12 = .ok (.iconst 3, 1) := by decide +kernel
theorem dX5_readTests_13 : decode cX5_readTests 13 = .ok (.aload_n 0, 1) := by decide +kernel
theorem dX5_readTests_14 : decode cX5_readTests 14 = .ok (.getfield 32, 3) := by decide +kernel
theorem dX5_readTests_17 : decode cX5_readTests 17 = .ok (.invokevirtual 48, 3) := by decide +kernel
theorem dX5_readTests_20 : decode cX5_readTests 20 = .ok (.aload_n 0, 1) := by decide +kernel
theorem dX5_readTests_21 : decode cX5_readTests 21 = .ok (.iload_n 1, 1) := by decide +kernel
theorem dX5_readTests_22 : decode cX5_readTests 22 = .ok (.invokevirtual 81, 3) := by decide +kernel
theorem dX5_readTests_25 : decode cX5_readTests 25 = .ok (.ifCond .ne 5, 3) := by decide +kernel
theorem dX5_readTests_28 : decode cX5_readTests 28 = .ok (.iconst 0, 1) := by decide +kernel
theorem dX5_readTests_29 : decode cX5_readTests 29 = .ok (.ireturn, 1) := by decide +kernel
theorem dX5_readTests_30 : decode cX5_readTests 30 = .ok (.iinc 2 1, 3) := by decide +kernel
theorem dX5_readTests_33 : decode cX5_readTests 33 = .ok (.aload_n 0, 1) := by decide +kernel
theorem dX5_readTests_34 : decode cX5_readTests 34 = .ok (.ldc 84, 2) := by decide +kernel
theorem dX5_readTests_36 : decode cX5_readTests 36 = .ok (.invokevirtual 68, 3) := by decide +kernel
theorem dX5_readTests_39 : decode cX5_readTests 39 = .ok (.ifCond .ne 10, 3) := by decide +kernel
theorem dX5_readTests_42 : decode cX5_readTests 42 = .ok (.iload_n 2, 1) := by decide +kernel
theorem dX5_readTests_43 : decode cX5_readTests 43 = .ok (.sipush 500, 3) := by decide +kernel
theorem dX5_readTests_46 : decode cX5_readTests 46 = .ok (.if_icmp .lt (-44), 3) := by decide +kernel
theorem dX5_readTests_49 : decode cX5_readTests 49 = .ok (.aload_n 0, 1) := by decide +kernel
theorem dX5_readTests_50 : decode cX5_readTests 50 = .ok (.bipush 58, 2) := by decide +kernel
theorem dX5_readTests_52 : decode cX5_readTests 52 = .ok (.invokevirtual 78, 3) := by decide +kernel
theorem dX5_readTests_55 : decode cX5_readTests 55 = .ok (.ireturn, 1) := by decide +kernel
theorem dX5_readTest_0 : decode cX5_readTest 0 = .ok (.aload_n 0, 1) := by decide +kernel
theorem dX5_readTest_1 : decode cX5_readTest 1 = .ok (.ldc 86, 2) := by decide +kernel
theorem dX5_readTest_3 : decode cX5_readTest 3 = .ok (.invokevirtual 68, 3) := by decide +kernel
theorem dX5_readTest_6 : decode cX5_readTest 6 = .ok (.ifCond .ne 7, 3) := by decide +kernel
theorem dX5_readTest_9 : decode cX5_readTest 9 = .ok (.iconst 1, 1) := by decide +kernel
theorem dX5_readTest_10 : decode cX5_readTest 10 = .ok (.goto 4, 3) := by decide +kernel
end
section
theorem dX5_readTest_13 : decode cX5_readTest 13 = .ok (.iconst 0, 1) := by decide +kernel
theorem dX5_readTest_14 : decode cX5_readTest 14 = .ok (.istore_n 2, 1) := by decide +kernel
theorem dX5_readTest_15 : decode cX5_readTest 15 = .ok (.iload_n 2, 1) := by decide +kernel
theorem dX5_readTest_16 : decode cX5_readTest 16 = .ok (.ifCond .eq 7, 3) := by decide +kernel
theorem dX5_readTest_19 : decode cX5_readTest 19 = .ok (.aload_n 0, 1) := by decide +kernel
theorem dX5_readTest_20 : decode cX5_readTest 20 = .ok (.invokevirtual 45, 3) := by decide +kernel
theorem dX5_readTest_23 : decode cX5_readTest 23 = .ok (.aload_n 0, 1) := by decide +kernel
theorem dX5_readTest_24 : decode cX5_readTest 24 = .ok (.aload_n 0, 1) := by decide +kernel
theorem dX5_readTest_25 : decode cX5_readTest 25 = .ok (.getfield 25, 3) := by decide +kernel
theorem dX5_readTest_28 : decode cX5_readTest 28 = .ok (.ifCond .eq 8, 3) := by decide +kernel
theorem dX5_readTest_31 : decode cX5_readTest 31 = .ok (.ldc 88, 2) := by decide +kernel
theorem dX5_readTest_33 : decode cX5_readTest 33 = .ok (.goto 5, 3) := by decide +kernel
theorem dX5_readTest_36 : decode cX5_readTest 36 = .ok (.ldc 90, 2) := by decide +kernel
theorem dX5_readTest_38 : decode cX5_readTest 38 = .ok (.invokevirtual 68, 3) := by decide +kernel
theorem dX5_readTest_41 : decode cX5_readTest 41 = .ok (.istore_n 3, 1) := by decide +kernel
theorem dX5_readTest_42 : decode cX5_readTest 42 = .ok (.iload_n 3, 1) := by decide +kernel
theorem dX5_readTest_43 : decode cX5_readTest 43 = .ok (.iconst (-1), 1) := by decide +kernel
theorem dX5_readTest_44 : decode cX5_readTest 44 = .ok (.if_icmp .ne 8, 3) := by decide +kernel
theorem dX5_readTest_47 : decode cX5_readTest 47 = .ok (.aload_n 0, 1) := by decide +kernel
theorem dX5_readTest_48 : decode cX5_readTest 48 = .ok (.invokevirtual 92, 3) := by decide +kernel
theorem dX5_readTest_51 : decode cX5_readTest 51 = .ok (.ireturn, 1) := by decide +kernel
theorem dX5_readTest_52 : decode cX5_readTest 52 = .ok (.aload_n 0, 1) := by decide +kernel
theorem dX5_readTest_53 : decode cX5_readTest 53 = .ok (.invokevirtual 45, 3) := by decide +kernel
theorem dX5_readTest_56 : decode cX5_readTest 56 = .ok (.aload_n 0, 1) := by decide +kernel
theorem dX5_readTest_57 : decode cX5_readTest 57 = .ok (.bipush 60, 2) := by decide +kernel
theorem dX5_readTest_59 : decode cX5_readTest 59 = .ok (.invokevirtual 96, 3) := by decide +kernel
theorem dX5_readTest_62 : decode cX5_readTest 62 = .ok (.ifCond .ne 26, 3) := by decide +kernel
theorem dX5_readTest_65 : decode cX5_readTest 65 = .ok (.aload_n 0, 1) := by decide +kernel
theorem dX5_readTest_66 : decode cX5_readTest 66 = .ok (.bipush 62, 2) := by decide +kernel
theorem dX5_readTest_68 : decode cX5_readTest 68 = .ok (.invokevirtual 96, 3) := by decide +kernel
theorem dX5_readTest_71 : decode cX5_readTest 71 = .ok (.ifCond .ne 17, 3) := by decide +kernel
theorem dX5_readTest_74 : decode cX5_readTest 74 = .ok (.aload_n 0, 1) := by decide +kernel
theorem dX5_readTest_75 : decode cX5_readTest 75 = .ok (.bipush 61, 2) := by decide +kernel
theorem dX5_readTest_77 : decode cX5_readTest 77 = .ok (.invokevirtual 96, 3) := by decide +kernel
theorem dX5_readTest_80 : decode cX5_readTest 80 = .ok (.ifCond .ne 8, 3) := by decide +kernel
theorem dX5_readTest_83 : decode cX5_readTest 83 = .ok (.aload_n 0, 1) := by decide +kernel
theorem dX5_readTest_84 : decode cX5_readTest 84 = .ok (.invokevirtual 92, 3) := by decide +kernel
theorem dX5_readTest_87 : decode cX5_readTest 87 = .ok (.ireturn, 1) := by decide +kernel
theorem dX5_readTest_88 : decode cX5_readTest 88 = .ok (.aload_n 0, 1) := by decide +kernel
theorem dX5_readTest_89 : decode cX5_readTest 89 = .ok (.getfield 38, 3) := by decide +kernel
theorem dX5_readTest_92 : decode cX5_readTest 92 = .ok (.aload_n 0, 1) := by decide +kernel
theorem dX5_readTest_93 : decode cX5_readTest 93 = .ok (.getfield 32, 3) := by decide +kernel
theorem dX5_readTest_96 : decode cX5_readTest 96 = .ok (.invokevirtual 99, 3) := by decide +kernel
theorem dX5_readTest_99 : decode cX5_readTest 99 = .ok (.istore 4, 2) := by decide +kernel
theorem dX5_readTest_101 : decode cX5_readTest 101 = .ok (.aload_n 0, 1) := by decide +kernel
theorem dX5_readTest_102 : decode cX5_readTest 102 = .ok (.invokevirtual 45, 3) := by decide +kernel
theorem dX5_readTest_105 : decode cX5_readTest 105 = .ok (.aload_n 0, 1) := by decide +kernel
theorem dX5_readTest_106 : decode cX5_readTest 106 = .ok (.getfield 29, 3) := by decide +kernel
theorem dX5_readTest_109 : decode cX5_readTest 109 = .ok (.iconst 2, 1) := by decide +kernel
theorem dX5_readTest_110 : decode cX5_readTest 110 = .ok (.if_icmp .eq 8, 3) := by decide +kernel
theorem dX5_readTest_113 : decode cX5_readTest 113 = .ok (.aload_n 0, 1) := by decide +kernel
theorem dX5_readTest_114 : decode cX5_readTest 114 = .ok (.invokevirtual 92, 3) := by decide +kernel
theorem dX5_readTest_117 : decode cX5_readTest 117 = .ok (.ireturn, 1) := by decide +kernel
theorem dX5_readTest_118 : decode cX5_readTest 118 = .ok (.aload_n 0, 1) := by decide +kernel
theorem dX5_readTest_119 : decode cX5_readTest 119 = .ok (.getfield 12, 3) := by decide +kernel
theorem dX5_readTest_122 : decode cX5_readTest 122 = .ok (.iload_n 1, 1) := by decide +kernel
theorem dX5_readTest_123 : decode cX5_readTest 123 = .ok (.iload_n 2, 1) := by decide +kernel
theorem dX5_readTest_124 : decode cX5_readTest 124 = .ok (.iload_n 3, 1) := by decide +kernel
theorem dX5_readTest_125 : decode cX5_readTest 125 = .ok (.iload 4, 2) := by decide +kernel
theorem dX5_readTest_127 : decode cX5_readTest 127 = .ok (.aload_n 0, 1) := by decide +kernel
theorem dX5_readTest_128 : decode cX5_readTest 128 = .ok (.invokevirtual 105, 3) := by decide +kernel
theorem dX5_readTest_131 : decode cX5_readTest 131 = .ok (.invokevirtual 109, 3) := by decide +kernel
theorem dX5_readTest_134 : decode cX5_readTest 134 = .ok (.aload_n 0, 1) := by decide +kernel
theorem dX5_readTest_135 : decode cX5_readTest 135 = .ok (.invokevirtual 45, 3) := by decide +kernel
theorem dX5_readTest_138 : decode cX5_readTest 138 = .ok (.iconst 1, 1) := by decide +kernel
theorem dX5_readTest_139 : decode cX5_readTest 139 = .ok (.ireturn, 1) := by decide +kernel
theorem dX5_readDeed_0 : decode cX5_readDeed 0 = .ok (.aload_n 0, 1) := by decide +kernel
theorem dX5_readDeed_1 : decode cX5_readDeed 1 = .ok (.aload_n 0, 1) := by decide +kernel
theorem dX5_readDeed_2 : decode cX5_readDeed 2 = .ok (.getfield 25, 3) := by decide +kernel
theorem dX5_readDeed_5 : decode cX5_readDeed 5 = .ok (.ifCond .eq 8, 3) := by decide +kernel
theorem dX5_readDeed_8 : decode cX5_readDeed 8 = .ok (.ldc 113, 2) := by decide +kernel
theorem dX5_readDeed_10 : decode cX5_readDeed 10 = .ok (.goto 5, 3) := by decide +kernel
theorem dX5_readDeed_13 : decode cX5_readDeed 13 = .ok (.ldc 115, 2) := by decide +kernel
theorem dX5_readDeed_15 : decode cX5_readDeed 15 = .ok (.invokevirtual 68, 3) := by decide +kernel
theorem dX5_readDeed_18 : decode cX5_readDeed 18 = .ok (.istore_n 2, 1) := by decide +kernel
theorem dX5_readDeed_19 : decode cX5_readDeed 19 = .ok (.iload_n 2, 1) := by decide +kernel
theorem dX5_readDeed_20 : decode cX5_readDeed 20 = .ok (.iconst (-1), 1) := by decide +kernel
theorem dX5_readDeed_21 : decode cX5_readDeed 21 = .ok (.if_icmp .ne 8, 3) := by decide +kernel
theorem dX5_readDeed_24 : decode cX5_readDeed 24 = .ok (.aload_n 0, 1) := by decide +kernel
theorem dX5_readDeed_25 : decode cX5_readDeed 25 = .ok (.invokevirtual 92, 3) := by decide +kernel
theorem dX5_readDeed_28 : decode cX5_readDeed 28 = .ok (.ireturn, 1) := by decide +kernel
theorem dX5_readDeed_29 : decode cX5_readDeed 29 = .ok (.aload_n 0, 1) := by decide +kernel
theorem dX5_readDeed_30 : decode cX5_readDeed 30 = .ok (.invokevirtual 45, 3) := by decide +kernel
theorem dX5_readDeed_33 : decode cX5_readDeed 33 = .ok (.aload_n 0, 1) := by decide +kernel
theorem dX5_readDeed_34 : decode cX5_readDeed 34 = .ok (.getfield 25, 3) := by decide +kernel
theorem dX5_readDeed_37 : decode cX5_readDeed 37 = .ok (.ifCond .ne 8, 3) := by decide +kernel
theorem dX5_readDeed_40 : decode cX5_readDeed 40 = .ok (.iload_n 2, 1) := by decide +kernel
theorem dX5_readDeed_41 : decode cX5_readDeed 41 = .ok (.iconst 2, 1) := by decide +kernel
theorem dX5_readDeed_42 : decode cX5_readDeed 42 = .ok (.if_icmp .ne 16, 3) := by decide +kernel
theorem dX5_readDeed_45 : decode cX5_readDeed 45 = .ok (.aload_n 0, 1) := by decide +kernel
theorem dX5_readDeed_46 : decode cX5_readDeed 46 = .ok (.getfield 12, 3) := by decide +kernel
theorem dX5_readDeed_49 : decode cX5_readDeed 49 = .ok (.iload_n 1, 1) := by decide +kernel
theorem dX5_readDeed_50 : decode cX5_readDeed 50 = .ok (.iload_n 2, 1) := by decide +kernel
theorem dX5_readDeed_51 : decode cX5_readDeed 51 = .ok (.iconst 0, 1) := by decide +kernel
theorem dX5_readDeed_52 : decode cX5_readDeed 52 = .ok (.iconst 0, 1) := by decide +kernel
theorem dX5_readDeed_53 : decode cX5_readDeed 53 = .ok (.invokevirtual 117, 3) := by decide +kernel
theorem dX5_readDeed_56 : decode cX5_readDeed 56 = .ok (.iconst 1, 1) := by decide +kernel
theorem dX5_readDeed_57 : decode cX5_readDeed 57 = .ok (.ireturn, 1) := by decide +kernel
theorem dX5_readDeed_58 : decode cX5_readDeed 58 = .ok (.aload_n 0, 1) := by decide +kernel
theorem dX5_readDeed_59 : decode cX5_readDeed 59 = .ok (.iload_n 1, 1) := by decide +kernel
theorem dX5_readDeed_60 : decode cX5_readDeed 60 = .ok (.iload_n 2, 1) := by decide +kernel
theorem dX5_readDeed_61 : decode cX5_readDeed 61 = .ok (.invokevirtual 121, 3) := by decide +kernel
theorem dX5_readDeed_64 : decode cX5_readDeed 64 = .ok (.ireturn, 1) := by decide +kernel
theorem dX5_readAmounts_0 : decode cX5_readAmounts 0 = .ok (.aload_n 0, 1) := by decide +kernel
theorem dX5_readAmounts_1 : decode cX5_readAmounts 1 = .ok (.getfield 29, 3) := by decide +kernel
theorem dX5_readAmounts_4 : decode cX5_readAmounts 4 = .ok (.iconst 2, 1) := by decide +kernel
theorem dX5_readAmounts_5 : decode cX5_readAmounts 5 = .ok (.if_icmp .eq 8, 3) := by decide +kernel
theorem dX5_readAmounts_8 : decode cX5_readAmounts 8 = .ok (.aload_n 0, 1) := by decide +kernel
theorem dX5_readAmounts_9 : decode cX5_readAmounts 9 = .ok (.invokevirtual 92, 3) := by decide +kernel
theorem dX5_readAmounts_12 : decode cX5_readAmounts 12 = .ok (.ireturn, 1) := by decide +kernel
theorem dX5_readAmounts_13 : decode cX5_readAmounts 13 = .ok (.aload_n 0, 1) := by decide +kernel
theorem dX5_readAmounts_14 : decode cX5_readAmounts 14 = .ok (.invokevirtual 105, 3) := by decide +kernel
theorem dX5_readAmounts_17 : decode cX5_readAmounts 17 = .ok (.istore_n 3, 1) := by decide +kernel
theorem dX5_readAmounts_18 : decode cX5_readAmounts 18 = .ok (.iload_n 3, 1) := by decide +kernel
theorem dX5_readAmounts_19 : decode cX5_readAmounts 19 = .ok (.istore 4, 2) := by decide +kernel
theorem dX5_readAmounts_21 : decode cX5_readAmounts 21 = .ok (.aload_n 0, 1) := by decide +kernel
theorem dX5_readAmounts_22 : decode cX5_readAmounts 22 = .ok (.invokevirtual 45, 3) := by decide +kernel
theorem dX5_readAmounts_25 : decode cX5_readAmounts 25 = .ok (.aload_n 0, 1) := by decide +kernel
theorem dX5_readAmounts_26 : decode cX5_readAmounts 26 = .ok (.ldc 125, 2) := by decide +kernel
theorem dX5_readAmounts_28 : decode cX5_readAmounts 28 = .ok (.invokevirtual 68, 3) := by decide +kernel
theorem dX5_readAmounts_31 : decode cX5_readAmounts 31 = .ok (.ifCond .ne 45, 3) := by decide +kernel
theorem dX5_readAmounts_34 : decode cX5_readAmounts 34 = .ok (.aload_n 0, 1) := by decide +kernel
theorem dX5_readAmounts_35 : decode cX5_readAmounts 35 = .ok (.invokevirtual 45, 3) := by decide +kernel
theorem dX5_readAmounts_38 : decode cX5_readAmounts 38 = .ok (.aload_n 0, 1) := by decide +kernel
theorem dX5_readAmounts_39 : decode cX5_readAmounts 39 = .ok (.getfield 29, 3) := by decide +kernel
theorem dX5_readAmounts_42 : decode cX5_readAmounts 42 = .ok (.iconst 2, 1) := by decide +kernel
theorem dX5_readAmounts_43 : decode cX5_readAmounts 43 = .ok (.if_icmp .eq 8, 3) := by decide +kernel
theorem dX5_readAmounts_46 : decode cX5_readAmounts 46 = .ok (.aload_n 0, 1) := by decide +kernel
theorem dX5_readAmounts_47 : decode cX5_readAmounts 47 = .ok (.invokevirtual 92, 3) := by decide +kernel
theorem dX5_readAmounts_50 : decode cX5_readAmounts 50 = .ok (.ireturn, 1) := by decide +kernel
theorem dX5_readAmounts_51 : decode cX5_readAmounts 51 = .ok (.aload_n 0, 1) := by decide +kernel
theorem dX5_readAmounts_52 : decode cX5_readAmounts 52 = .ok (.invokevirtual 105, 3) := by decide +kernel
theorem dX5_readAmounts_55 : decode cX5_readAmounts 55 = .ok (.istore 4, 2) := by decide +kernel
theorem dX5_readAmounts_57 : decode cX5_readAmounts 57 = .ok (.iload 4, 2) := by decide +kernel
theorem dX5_readAmounts_59 : decode cX5_readAmounts 59 = .ok (.iload_n 3, 1) := by decide +kernel
theorem dX5_readAmounts_60 : decode cX5_readAmounts 60 = .ok (.if_icmp .ge 12, 3) := by decide +kernel
theorem dX5_readAmounts_63 : decode cX5_readAmounts 63 = .ok (.aload_n 0, 1) := by decide +kernel
theorem dX5_readAmounts_64 : decode cX5_readAmounts 64 = .ok (.iconst 2, 1) := by decide +kernel
theorem dX5_readAmounts_65 : decode cX5_readAmounts 65 = .ok (.aload_n 0, 1) := by decide +kernel
theorem dX5_readAmounts_66 : decode cX5_readAmounts 66 = .ok (.getfield 32, 3) := by decide +kernel
theorem dX5_readAmounts_69 : decode cX5_readAmounts 69 = .ok (.invokevirtual 48, 3) := by decide +kernel
theorem dX5_readAmounts_72 : decode cX5_readAmounts 72 = .ok (.aload_n 0, 1) := by decide +kernel
theorem dX5_readAmounts_73 : decode cX5_readAmounts 73 = .ok (.invokevirtual 45, 3) := by decide +kernel
theorem dX5_readAmounts_76 : decode cX5_readAmounts 76 = .ok (.aload_n 0, 1) := by decide +kernel
theorem dX5_readAmounts_77 : decode cX5_readAmounts 77 = .ok (.getfield 12, 3) := by decide +kernel
theorem dX5_readAmounts_80 : decode cX5_readAmounts 80 = .ok (.iload_n 1, 1) := by decide +kernel
theorem dX5_readAmounts_81 : decode cX5_readAmounts 81 = .ok (.iload_n 2, 1) := by decide +kernel
theorem dX5_readAmounts_82 : decode cX5_readAmounts 82 = .ok (.iload_n 3, 1) := by decide +kernel
theorem dX5_readAmounts_83 : decode cX5_readAmounts 83 = .ok (.iload 4, 2) := by decide +kernel
theorem dX5_readAmounts_85 : decode cX5_readAmounts 85 = .ok (.invokevirtual 117, 3) := by decide +kernel
theorem dX5_readAmounts_88 : decode cX5_readAmounts 88 = .ok (.iconst 1, 1) := by decide +kernel
theorem dX5_readAmounts_89 : decode cX5_readAmounts 89 = .ok (.ireturn, 1) := by decide +kernel
theorem dX5_pass_0 : decode cX5_pass 0 = .ok (.aload_n 0, 1) := by decide +kernel
theorem dX5_pass_1 : decode cX5_pass 1 = .ok (.iload_n 1, 1) := by decide +kernel
theorem dX5_pass_2 : decode cX5_pass 2 = .ok (.invokevirtual 96, 3) := by decide +kernel
theorem dX5_pass_5 : decode cX5_pass 5 = .ok (.ifCond .ne 8, 3) := by decide +kernel
theorem dX5_pass_8 : decode cX5_pass 8 = .ok (.aload_n 0, 1) := by decide +kernel
theorem dX5_pass_9 : decode cX5_pass 9 = .ok (.invokevirtual 92, 3) := by decide +kernel
theorem dX5_pass_12 : decode cX5_pass 12 = .ok (.ireturn, 1) := by decide +kernel
theorem dX5_pass_13 : decode cX5_pass 13 = .ok (.aload_n 0, 1) := by decide +kernel
theorem dX5_pass_14 : decode cX5_pass 14 = .ok (.invokevirtual 45, 3) := by decide +kernel
theorem dX5_pass_17 : decode cX5_pass 17 = .ok (.iconst 1, 1) := by decide +kernel
theorem dX5_pass_18 : decode cX5_pass 18 = .ok (.ireturn, 1) := by decide +kernel
theorem dX5_refuse_0 : decode cX5_refuse 0 = .ok (.aload_n 0, 1) := by decide +kernel
theorem dX5_refuse_1 : decode cX5_refuse 1 = .ok (.iconst 1, 1) := by decide +kernel
theorem dX5_refuse_2 : decode cX5_refuse 2 = .ok (.putfield 18, 3) := by decide +kernel
theorem dX5_refuse_5 : decode cX5_refuse 5 = .ok (.aload_n 0, 1) := by decide +kernel
theorem dX5_refuse_6 : decode cX5_refuse 6 = .ok (.aload_n 0, 1) := by decide +kernel
theorem dX5_refuse_7 : decode cX5_refuse 7 = .ok (.getfield 32, 3) := by decide +kernel
theorem dX5_refuse_10 : decode cX5_refuse 10 = .ok (.putfield 22, 3) := by decide +kernel
theorem dX5_refuse_13 : decode cX5_refuse 13 = .ok (.iconst 0, 1) := by decide +kernel
theorem dX5_refuse_14 : decode cX5_refuse 14 = .ok (.ireturn, 1) := by decide +kernel
theorem dX5_remark_0 : decode cX5_remark 0 = .ok (.aload_n 0, 1) := by decide +kernel
theorem dX5_remark_1 : decode cX5_remark 1 = .ok (.getfield 18, 3) := by decide +kernel
theorem dX5_remark_4 : decode cX5_remark 4 = .ok (.ifCond .ne 13, 3) := by decide +kernel
theorem dX5_remark_7 : decode cX5_remark 7 = .ok (.aload_n 0, 1) := by decide +kernel
theorem dX5_remark_8 : decode cX5_remark 8 = .ok (.iload_n 1, 1) := by decide +kernel
theorem dX5_remark_9 : decode cX5_remark 9 = .ok (.putfield 18, 3) := by decide +kernel
theorem dX5_remark_12 : decode cX5_remark 12 = .ok (.aload_n 0, 1) := by decide +kernel
theorem dX5_remark_13 : decode cX5_remark 13 = .ok (.iload_n 2, 1) := by decide +kernel
theorem dX5_remark_14 : decode cX5_remark 14 = .ok (.putfield 22, 3) := by decide +kernel
theorem dX5_remark_17 : decode cX5_remark 17 = .ok (.return_, 1) := by decide +kernel
theorem dX5_isSign_0 : decode cX5_isSign 0 = .ok (.aload_n 0, 1) := by decide +kernel
theorem dX5_isSign_1 : decode cX5_isSign 1 = .ok (.getfield 29, 3) := by decide +kernel
theorem dX5_isSign_4 : decode cX5_isSign 4 = .ok (.iconst 3, 1) := by decide +kernel
theorem dX5_isSign_5 : decode cX5_isSign 5 = .ok (.if_icmp .ne 22, 3) := by decide +kernel
theorem dX5_isSign_8 : decode cX5_isSign 8 = .ok (.aload_n 0, 1) := by decide +kernel
theorem dX5_isSign_9 : decode cX5_isSign 9 = .ok (.getfield 38, 3) := by decide +kernel
theorem dX5_isSign_12 : decode cX5_isSign 12 = .ok (.aload_n 0, 1) := by decide +kernel
theorem dX5_isSign_13 : decode cX5_isSign 13 = .ok (.getfield 32, 3) := by decide +kernel
theorem dX5_isSign_16 : decode cX5_isSign 16 = .ok (.invokevirtual 99, 3) := by decide +kernel
theorem dX5_isSign_19 : decode cX5_isSign 19 = .ok (.iload_n 1, 1) := by decide +kernel
theorem dX5_isSign_20 : decode cX5_isSign 20 = .ok (.if_icmp .ne 7, 3) := by decide +kernel
theorem dX5_isSign_23 : decode cX5_isSign 23 = .ok (.iconst 1, 1) := by decide +kernel
theorem dX5_isSign_24 : decode cX5_isSign 24 = .ok (.goto 4, 3) := by decide +kernel
theorem dX5_isSign_27 : decode cX5_isSign 27 = .ok (.iconst 0, 1) := by decide +kernel
theorem dX5_isSign_28 : decode cX5_isSign 28 = .ok (.ireturn, 1) := by decide +kernel
theorem dX5_wordIn_0 : decode cX5_wordIn 0 = .ok (.aload_n 0, 1) := by decide +kernel
theorem dX5_wordIn_1 : decode cX5_wordIn 1 = .ok (.getfield 29, 3) := by decide +kernel
theorem dX5_wordIn_4 : decode cX5_wordIn 4 = .ok (.iconst 1, 1) := by decide +kernel
theorem dX5_wordIn_5 : decode cX5_wordIn 5 = .ok (.if_icmp .eq 5, 3) := by decide +kernel
theorem dX5_wordIn_8 : decode cX5_wordIn 8 = .ok (.iconst (-1), 1) := by decide +kernel
theorem dX5_wordIn_9 : decode cX5_wordIn 9 = .ok (.ireturn, 1) := by decide +kernel
theorem dX5_wordIn_10 : decode cX5_wordIn 10 = .ok (.iconst 0, 1) := by decide +kernel
theorem dX5_wordIn_11 : decode cX5_wordIn 11 = .ok (.istore_n 2, 1) := by decide +kernel
theorem dX5_wordIn_12 : decode cX5_wordIn 12 = .ok (.aload_n 0, 1) := by decide +kernel
theorem dX5_wordIn_13 : decode cX5_wordIn 13 = .ok (.getfield 32, 3) := by decide +kernel
theorem dX5_wordIn_16 : decode cX5_wordIn 16 = .ok (.istore_n 3, 1) := by decide +kernel
theorem dX5_wordIn_17 : decode cX5_wordIn 17 = .ok (.iconst 1, 1) := by decide +kernel
theorem dX5_wordIn_18 : decode cX5_wordIn 18 = .ok (.istore 4, 2) := by decide +kernel
theorem dX5_wordIn_20 : decode cX5_wordIn 20 = .ok (.iconst 0, 1) := by decide +kernel
theorem dX5_wordIn_21 : decode cX5_wordIn 21 = .ok (.istore 5, 2) := by decide +kernel
theorem dX5_wordIn_23 : decode cX5_wordIn 23 = .ok (.iload 5, 2) := by decide +kernel
theorem dX5_wordIn_25 : decode cX5_wordIn 25 = .ok (.aload_n 1, 1) := by decide +kernel
theorem dX5_wordIn_26 : decode cX5_wordIn 26 = .ok (.invokevirtual 127, 3) := by decide +kernel
theorem dX5_wordIn_29 : decode cX5_wordIn 29 = .ok (.if_icmp .gt 98, 3) := by decide +kernel
theorem dX5_wordIn_32 : decode cX5_wordIn 32 = .ok (.iload 5, 2) := by decide +kernel
theorem dX5_wordIn_34 : decode cX5_wordIn 34 = .ok (.aload_n 1, 1) := by decide +kernel
theorem dX5_wordIn_35 : decode cX5_wordIn 35 = .ok (.invokevirtual 127, 3) := by decide +kernel
theorem dX5_wordIn_38 : decode cX5_wordIn 38 = .ok (.if_icmp .eq 14, 3) := by decide +kernel
theorem dX5_wordIn_41 : decode cX5_wordIn 41 = .ok (.aload_n 1, 1) := by decide +kernel
theorem dX5_wordIn_42 : decode cX5_wordIn 42 = .ok (.iload 5, 2) := by decide +kernel
theorem dX5_wordIn_44 : decode cX5_wordIn 44 = .ok (.invokevirtual 132, 3) := by decide +kernel
theorem dX5_wordIn_47 : decode cX5_wordIn 47 = .ok (.bipush 32, 2) := by decide +kernel
theorem dX5_wordIn_49 : decode cX5_wordIn 49 = .ok (.if_icmp .ne 32, 3) := by decide +kernel
theorem dX5_wordIn_52 : decode cX5_wordIn 52 = .ok (.iload 4, 2) := by decide +kernel
theorem dX5_wordIn_54 : decode cX5_wordIn 54 = .ok (.ifCond .eq 13, 3) := by decide +kernel
theorem dX5_wordIn_57 : decode cX5_wordIn 57 = .ok (.iload_n 3, 1) := by decide +kernel
theorem dX5_wordIn_58 : decode cX5_wordIn 58 = .ok (.aload_n 0, 1) := by decide +kernel
theorem dX5_wordIn_59 : decode cX5_wordIn 59 = .ok (.getfield 35, 3) := by decide +kernel
theorem dX5_wordIn_62 : decode cX5_wordIn 62 = .ok (.if_icmp .ne 5, 3) := by decide +kernel
theorem dX5_wordIn_65 : decode cX5_wordIn 65 = .ok (.iload_n 2, 1) := by decide +kernel
theorem dX5_wordIn_66 : decode cX5_wordIn 66 = .ok (.ireturn, 1) := by decide +kernel
theorem dX5_wordIn_67 : decode cX5_wordIn 67 = .ok (.iinc 2 1, 3) := by decide +kernel
theorem dX5_wordIn_70 : decode cX5_wordIn 70 = .ok (.aload_n 0, 1) := by decide +kernel
theorem dX5_wordIn_71 : decode cX5_wordIn 71 = .ok (.getfield 32, 3) := by decide +kernel
theorem dX5_wordIn_74 : decode cX5_wordIn 74 = .ok (.istore_n 3, 1) := by decide +kernel
theorem dX5_wordIn_75 : decode cX5_wordIn 75 = .ok (.iconst 1, 1) := by decide +kernel
theorem dX5_wordIn_76 : decode cX5_wordIn 76 = .ok (.istore 4, 2) := by decide +kernel
theorem dX5_wordIn_78 : decode cX5_wordIn 78 = .ok (.goto 43, 3) := by decide +kernel
theorem dX5_wordIn_81 : decode cX5_wordIn 81 = .ok (.iload 4, 2) := by decide +kernel
theorem dX5_wordIn_83 : decode cX5_wordIn 83 = .ok (.ifCond .eq 32, 3) := by decide +kernel
theorem dX5_wordIn_86 : decode cX5_wordIn 86 = .ok (.iload_n 3, 1) := by decide +kernel
theorem dX5_wordIn_87 : decode cX5_wordIn 87 = .ok (.aload_n 0, 1) := by decide +kernel
theorem dX5_wordIn_88 : decode cX5_wordIn 88 = .ok (.getfield 35, 3) := by decide +kernel
theorem dX5_wordIn_91 : decode cX5_wordIn 91 = .ok (.if_icmp .ge 24, 3) := by decide +kernel
theorem dX5_wordIn_94 : decode cX5_wordIn 94 = .ok (.aload_n 0, 1) := by decide +kernel
theorem dX5_wordIn_95 : decode cX5_wordIn 95 = .ok (.getfield 38, 3) := by decide +kernel
theorem dX5_wordIn_98 : decode cX5_wordIn 98 = .ok (.iload_n 3, 1) := by decide +kernel
theorem dX5_wordIn_99 : decode cX5_wordIn 99 = .ok (.invokevirtual 99, 3) := by decide +kernel
theorem dX5_wordIn_102 : decode cX5_wordIn 102 = .ok (.aload_n 1, 1) := by decide +kernel
theorem dX5_wordIn_103 : decode cX5_wordIn 103 = .ok (.iload 5, 2) := by decide +kernel
theorem dX5_wordIn_105 : decode cX5_wordIn 105 = .ok (.invokevirtual 132, 3) := by decide +kernel
theorem dX5_wordIn_108 : decode cX5_wordIn 108 = .ok (.if_icmp .ne 7, 3) := by decide +kernel
theorem dX5_wordIn_111 : decode cX5_wordIn 111 = .ok (.iconst 1, 1) := by decide +kernel
theorem dX5_wordIn_112 : decode cX5_wordIn 112 = .ok (.goto 4, 3) := by decide +kernel
theorem dX5_wordIn_115 : decode cX5_wordIn 115 = .ok (.iconst 0, 1) := by decide +kernel
theorem dX5_wordIn_116 : decode cX5_wordIn 116 = .ok (.istore 4, 2) := by decide +kernel
theorem dX5_wordIn_118 : decode cX5_wordIn 118 = .ok (.iinc 3 1, 3) := by decide +kernel
theorem dX5_wordIn_121 : decode cX5_wordIn 121 = .ok (.iinc 5 1, 3) := by decide +kernel
theorem dX5_wordIn_124 : decode cX5_wordIn 124 = .ok (.goto (-101), 3) := by decide +kernel
theorem dX5_wordIn_127 : decode cX5_wordIn 127 = .ok (.iconst (-1), 1) := by decide +kernel
theorem dX5_wordIn_128 : decode cX5_wordIn 128 = .ok (.ireturn, 1) := by decide +kernel
theorem dX5_number_0 : decode cX5_number 0 = .ok (.iconst 0, 1) := by decide +kernel
theorem dX5_number_1 : decode cX5_number 1 = .ok (.istore_n 1, 1) := by decide +kernel
theorem dX5_number_2 : decode cX5_number 2 = .ok (.aload_n 0, 1) := by decide +kernel
theorem dX5_number_3 : decode cX5_number 3 = .ok (.getfield 32, 3) := by decide +kernel
theorem dX5_number_6 : decode cX5_number 6 = .ok (.istore_n 2, 1) := by decide +kernel
theorem dX5_number_7 : decode cX5_number 7 = .ok (.iload_n 2, 1) := by decide +kernel
theorem dX5_number_8 : decode cX5_number 8 = .ok (.aload_n 0, 1) := by decide +kernel
theorem dX5_number_9 : decode cX5_number 9 = .ok (.getfield 35, 3) := by decide +kernel
theorem dX5_number_12 : decode cX5_number 12 = .ok (.if_icmp .ge 26, 3) := by decide +kernel
theorem dX5_number_15 : decode cX5_number 15 = .ok (.iload_n 1, 1) := by decide +kernel
theorem dX5_number_16 : decode cX5_number 16 = .ok (.bipush 10, 2) := by decide +kernel
theorem dX5_number_18 : decode cX5_number 18 = .ok (.imul, 1) := by decide +kernel
theorem dX5_number_19 : decode cX5_number 19 = .ok (.aload_n 0, 1) := by decide +kernel
theorem dX5_number_20 : decode cX5_number 20 = .ok (.getfield 38, 3) := by decide +kernel
theorem dX5_number_23 : decode cX5_number 23 = .ok (.iload_n 2, 1) := by decide +kernel
theorem dX5_number_24 : decode cX5_number 24 = .ok (.invokevirtual 99, 3) := by decide +kernel
theorem dX5_number_27 : decode cX5_number 27 = .ok (.iadd, 1) := by decide +kernel
theorem dX5_number_28 : decode cX5_number 28 = .ok (.bipush 48, 2) := by decide +kernel
theorem dX5_number_30 : decode cX5_number 30 = .ok (.isub, 1) := by decide +kernel
theorem dX5_number_31 : decode cX5_number 31 = .ok (.istore_n 1, 1) := by decide +kernel
theorem dX5_number_32 : decode cX5_number 32 = .ok (.iinc 2 1, 3) := by decide +kernel
theorem dX5_number_35 : decode cX5_number 35 = .ok (.goto (-28), 3) := by decide +kernel
theorem dX5_number_38 : decode cX5_number 38 = .ok (.iload_n 1, 1) := by decide +kernel
theorem dX5_number_39 : decode cX5_number 39 = .ok (.ireturn, 1) := by decide +kernel
theorem dX5_advance_0 : decode cX5_advance 0 = .ok (.aload_n 0, 1) := by decide +kernel
theorem dX5_advance_1 : decode cX5_advance 1 = .ok (.aload_n 0, 1) := by decide +kernel
theorem dX5_advance_2 : decode cX5_advance 2 = .ok (.getfield 35, 3) := by decide +kernel
theorem dX5_advance_5 : decode cX5_advance 5 = .ok (.putfield 32, 3) := by decide +kernel
theorem dX5_advance_8 : decode cX5_advance 8 = .ok (.aload_n 0, 1) := by decide +kernel
theorem dX5_advance_9 : decode cX5_advance 9 = .ok (.getfield 32, 3) := by decide +kernel
theorem dX5_advance_12 : decode cX5_advance 12 = .ok (.sipush 500, 3) := by decide +kernel
theorem dX5_advance_15 : decode cX5_advance 15 = .ok (.if_icmp .ge 33, 3) := by decide +kernel
theorem dX5_advance_18 : decode cX5_advance 18 = .ok (.aload_n 0, 1) := by decide +kernel
theorem dX5_advance_19 : decode cX5_advance 19 = .ok (.getfield 38, 3) := by decide +kernel
theorem dX5_advance_22 : decode cX5_advance 22 = .ok (.aload_n 0, 1) := by decide +kernel
theorem dX5_advance_23 : decode cX5_advance 23 = .ok (.getfield 32, 3) := by decide +kernel
theorem dX5_advance_26 : decode cX5_advance 26 = .ok (.invokevirtual 99, 3) := by decide +kernel
theorem dX5_advance_29 : decode cX5_advance 29 = .ok (.invokestatic 136, 3) := by decide +kernel
theorem dX5_advance_32 : decode cX5_advance 32 = .ok (.ifCond .eq 16, 3) := by decide +kernel
theorem dX5_advance_35 : decode cX5_advance 35 = .ok (.aload_n 0, 1) := by decide +kernel
theorem dX5_advance_36 : decode cX5_advance 36 = .ok (.dup, 1) := by decide +kernel
theorem dX5_advance_37 : decode cX5_advance 37 = .ok (.getfield 32, 3) := by decide +kernel
theorem dX5_advance_40 : decode cX5_advance 40 = .ok (.iconst 1, 1) := by decide +kernel
theorem dX5_advance_41 : decode cX5_advance 41 = .ok (.iadd, 1) := by decide +kernel
theorem dX5_advance_42 : decode cX5_advance 42 = .ok (.putfield 32, 3) := by decide +kernel
theorem dX5_advance_45 : decode cX5_advance 45 = .ok (.goto (-37), 3) := by decide +kernel
theorem dX5_advance_48 : decode cX5_advance 48 = .ok (.aload_n 0, 1) := by decide +kernel
theorem dX5_advance_49 : decode cX5_advance 49 = .ok (.getfield 38, 3) := by decide +kernel
theorem dX5_advance_52 : decode cX5_advance 52 = .ok (.aload_n 0, 1) := by decide +kernel
theorem dX5_advance_53 : decode cX5_advance 53 = .ok (.getfield 32, 3) := by decide +kernel
theorem dX5_advance_56 : decode cX5_advance 56 = .ok (.invokevirtual 99, 3) := by decide +kernel
theorem dX5_advance_59 : decode cX5_advance 59 = .ok (.istore_n 1, 1) := by decide +kernel
theorem dX5_advance_60 : decode cX5_advance 60 = .ok (.aload_n 0, 1) := by decide +kernel
theorem dX5_advance_61 : decode cX5_advance 61 = .ok (.aload_n 0, 1) := by decide +kernel
theorem dX5_advance_62 : decode cX5_advance 62 = .ok (.getfield 32, 3) := by decide +kernel
theorem dX5_advance_65 : decode cX5_advance 65 = .ok (.putfield 35, 3) := by decide +kernel
theorem dX5_advance_68 : decode cX5_advance 68 = .ok (.iload_n 1, 1) := by decide +kernel
theorem dX5_advance_69 : decode cX5_advance 69 = .ok (.invokestatic 139, 3) := by decide +kernel
theorem dX5_advance_72 : decode cX5_advance 72 = .ok (.ifCond .eq 51, 3) := by decide +kernel
theorem dX5_advance_75 : decode cX5_advance 75 = .ok (.aload_n 0, 1) := by decide +kernel
theorem dX5_advance_76 : decode cX5_advance 76 = .ok (.getfield 35, 3) := by decide +kernel
theorem dX5_advance_79 : decode cX5_advance 79 = .ok (.sipush 500, 3) := by decide +kernel
theorem dX5_advance_82 : decode cX5_advance 82 = .ok (.if_icmp .ge 33, 3) := by decide +kernel
theorem dX5_advance_85 : decode cX5_advance 85 = .ok (.aload_n 0, 1) := by decide +kernel
theorem dX5_advance_86 : decode cX5_advance 86 = .ok (.getfield 38, 3) := by decide +kernel
theorem dX5_advance_89 : decode cX5_advance 89 = .ok (.aload_n 0, 1) := by decide +kernel
theorem dX5_advance_90 : decode cX5_advance 90 = .ok (.getfield 35, 3) := by decide +kernel
theorem dX5_advance_93 : decode cX5_advance 93 = .ok (.invokevirtual 99, 3) := by decide +kernel
theorem dX5_advance_96 : decode cX5_advance 96 = .ok (.invokestatic 139, 3) := by decide +kernel
theorem dX5_advance_99 : decode cX5_advance 99 = .ok (.ifCond .eq 16, 3) := by decide +kernel
theorem dX5_advance_102 : decode cX5_advance 102 = .ok (.aload_n 0, 1) := by decide +kernel
theorem dX5_advance_103 : decode cX5_advance 103 = .ok (.dup, 1) := by decide +kernel
theorem dX5_advance_104 : decode cX5_advance 104 = .ok (.getfield 35, 3) := by decide +kernel
theorem dX5_advance_107 : decode cX5_advance 107 = .ok (.iconst 1, 1) := by decide +kernel
theorem dX5_advance_108 : decode cX5_advance 108 = .ok (.iadd, 1) := by decide +kernel
theorem dX5_advance_109 : decode cX5_advance 109 = .ok (.putfield 35, 3) := by decide +kernel
theorem dX5_advance_112 : decode cX5_advance 112 = .ok (.goto (-37), 3) := by decide +kernel
theorem dX5_advance_115 : decode cX5_advance 115 = .ok (.aload_n 0, 1) := by decide +kernel
theorem dX5_advance_116 : decode cX5_advance 116 = .ok (.iconst 1, 1) := by decide +kernel
theorem dX5_advance_117 : decode cX5_advance 117 = .ok (.putfield 29, 3) := by decide +kernel
theorem dX5_advance_120 : decode cX5_advance 120 = .ok (.goto 114, 3) := by decide +kernel
theorem dX5_advance_123 : decode cX5_advance 123 = .ok (.iload_n 1, 1) := by decide +kernel
theorem dX5_advance_124 : decode cX5_advance 124 = .ok (.invokestatic 142, 3) := by decide +kernel
theorem dX5_advance_127 : decode cX5_advance 127 = .ok (.ifCond .eq 68, 3) := by decide +kernel
theorem dX5_advance_130 : decode cX5_advance 130 = .ok (.aload_n 0, 1) := by decide +kernel
theorem dX5_advance_131 : decode cX5_advance 131 = .ok (.getfield 35, 3) := by decide +kernel
theorem dX5_advance_134 : decode cX5_advance 134 = .ok (.sipush 500, 3) := by decide +kernel
theorem dX5_advance_137 : decode cX5_advance 137 = .ok (.if_icmp .ge 33, 3) := by decide +kernel
theorem dX5_advance_140 : decode cX5_advance 140 = .ok (.aload_n 0, 1) := by decide +kernel
theorem dX5_advance_141 : decode cX5_advance 141 = .ok (.getfield 38, 3) := by decide +kernel
theorem dX5_advance_144 : decode cX5_advance 144 = .ok (.aload_n 0, 1) := by decide +kernel
theorem dX5_advance_145 : decode cX5_advance 145 = .ok (.getfield 35, 3) := by decide +kernel
theorem dX5_advance_148 : decode cX5_advance 148 = .ok (.invokevirtual 99, 3) := by decide +kernel
theorem dX5_advance_151 : decode cX5_advance 151 = .ok (.invokestatic 142, 3) := by decide +kernel
theorem dX5_advance_154 : decode cX5_advance 154 = .ok (.ifCond .eq 16, 3) := by decide +kernel
theorem dX5_advance_157 : decode cX5_advance 157 = .ok (.aload_n 0, 1) := by decide +kernel
theorem dX5_advance_158 : decode cX5_advance 158 = .ok (.dup, 1) := by decide +kernel
theorem dX5_advance_159 : decode cX5_advance 159 = .ok (.getfield 35, 3) := by decide +kernel
theorem dX5_advance_162 : decode cX5_advance 162 = .ok (.iconst 1, 1) := by decide +kernel
theorem dX5_advance_163 : decode cX5_advance 163 = .ok (.iadd, 1) := by decide +kernel
theorem dX5_advance_164 : decode cX5_advance 164 = .ok (.putfield 35, 3) := by decide +kernel
theorem dX5_advance_167 : decode cX5_advance 167 = .ok (.goto (-37), 3) := by decide +kernel
theorem dX5_advance_170 : decode cX5_advance 170 = .ok (.aload_n 0, 1) := by decide +kernel
theorem dX5_advance_171 : decode cX5_advance 171 = .ok (.aload_n 0, 1) := by decide +kernel
theorem dX5_advance_172 : decode cX5_advance 172 = .ok (.getfield 35, 3) := by decide +kernel
theorem dX5_advance_175 : decode cX5_advance 175 = .ok (.aload_n 0, 1) := by decide +kernel
theorem dX5_advance_176 : decode cX5_advance 176 = .ok (.getfield 32, 3) := by decide +kernel
theorem dX5_advance_179 : decode cX5_advance 179 = .ok (.isub, 1) := by decide +kernel
theorem dX5_advance_180 : decode cX5_advance 180 = .ok (.iconst 4, 1) := by decide +kernel
theorem dX5_advance_181 : decode cX5_advance 181 = .ok (.if_icmp .gt 7, 3) := by decide +kernel
theorem dX5_advance_184 : decode cX5_advance 184 = .ok (.iconst 2, 1) := by decide +kernel
theorem dX5_advance_185 : decode cX5_advance 185 = .ok (.goto 4, 3) := by decide +kernel
theorem dX5_advance_188 : decode cX5_advance 188 = .ok (.iconst 4, 1) := by decide +kernel
theorem dX5_advance_189 : decode cX5_advance 189 = .ok (.putfield 29, 3) := by decide +kernel
theorem dX5_advance_192 : decode cX5_advance 192 = .ok (.goto 42, 3) := by decide +kernel
theorem dX5_advance_195 : decode cX5_advance 195 = .ok (.iload_n 1, 1) := by decide +kernel
theorem dX5_advance_196 : decode cX5_advance 196 = .ok (.iconst (-1), 1) := by decide +kernel
theorem dX5_advance_197 : decode cX5_advance 197 = .ok (.if_icmp .ne 11, 3) := by decide +kernel
theorem dX5_advance_200 : decode cX5_advance 200 = .ok (.aload_n 0, 1) := by decide +kernel
theorem dX5_advance_201 : decode cX5_advance 201 = .ok (.iconst 0, 1) := by decide +kernel
theorem dX5_advance_202 : decode cX5_advance 202 = .ok (.putfield 29, 3) := by decide +kernel
theorem dX5_advance_205 : decode cX5_advance 205 = .ok (.goto 29, 3) := by decide +kernel
theorem dX5_advance_208 : decode cX5_advance 208 = .ok (.aload_n 0, 1) := by decide +kernel
theorem dX5_advance_209 : decode cX5_advance 209 = .ok (.dup, 1) := by decide +kernel
theorem dX5_advance_210 : decode cX5_advance 210 = .ok (.getfield 35, 3) := by decide +kernel
theorem dX5_advance_213 : decode cX5_advance 213 = .ok (.iconst 1, 1) := by decide +kernel
theorem dX5_advance_214 : decode cX5_advance 214 = .ok (.iadd, 1) := by decide +kernel
theorem dX5_advance_215 : decode cX5_advance 215 = .ok (.putfield 35, 3) := by decide +kernel
theorem dX5_advance_218 : decode cX5_advance 218 = .ok (.aload_n 0, 1) := by decide +kernel
theorem dX5_advance_219 : decode cX5_advance 219 = .ok (.iload_n 1, 1) := by decide +kernel
theorem dX5_advance_220 : decode cX5_advance 220 = .ok (.invokestatic 145, 3) := by decide +kernel
theorem dX5_advance_223 : decode cX5_advance 223 = .ok (.ifCond .eq 7, 3) := by decide +kernel
theorem dX5_advance_226 : decode cX5_advance 226 = .ok (.iconst 3, 1) := by decide +kernel
theorem dX5_advance_227 : decode cX5_advance 227 = .ok (.goto 4, 3) := by decide +kernel
theorem dX5_advance_230 : decode cX5_advance 230 = .ok (.iconst 4, 1) := by decide +kernel
theorem dX5_advance_231 : decode cX5_advance 231 = .ok (.putfield 29, 3) := by decide +kernel
theorem dX5_advance_234 : decode cX5_advance 234 = .ok (.return_, 1) := by decide +kernel
theorem dX5_isBlank_0 : decode cX5_isBlank 0 = .ok (.iload_n 0, 1) := by decide +kernel
theorem dX5_isBlank_1 : decode cX5_isBlank 1 = .ok (.bipush 10, 2) := by decide +kernel
theorem dX5_isBlank_3 : decode cX5_isBlank 3 = .ok (.if_icmp .eq 9, 3) := by decide +kernel
theorem dX5_isBlank_6 : decode cX5_isBlank 6 = .ok (.iload_n 0, 1) := by decide +kernel
theorem dX5_isBlank_7 : decode cX5_isBlank 7 = .ok (.bipush 32, 2) := by decide +kernel
theorem dX5_isBlank_9 : decode cX5_isBlank 9 = .ok (.if_icmp .ne 7, 3) := by decide +kernel
theorem dX5_isBlank_12 : decode cX5_isBlank 12 = .ok (.iconst 1, 1) := by decide +kernel
theorem dX5_isBlank_13 : decode cX5_isBlank 13 = .ok (.goto 4, 3) := by decide +kernel
theorem dX5_isBlank_16 : decode cX5_isBlank 16 = .ok (.iconst 0, 1) := by decide +kernel
theorem dX5_isBlank_17 : decode cX5_isBlank 17 = .ok (.ireturn, 1) := by decide +kernel
theorem dX5_isLetter_0 : decode cX5_isLetter 0 = .ok (.iload_n 0, 1) := by decide +kernel
theorem dX5_isLetter_1 : decode cX5_isLetter 1 = .ok (.bipush 97, 2) := by decide +kernel
theorem dX5_isLetter_3 : decode cX5_isLetter 3 = .ok (.if_icmp .lt 13, 3) := by decide +kernel
theorem dX5_isLetter_6 : decode cX5_isLetter 6 = .ok (.iload_n 0, 1) := by decide +kernel
theorem dX5_isLetter_7 : decode cX5_isLetter 7 = .ok (.bipush 122, 2) := by decide +kernel
theorem dX5_isLetter_9 : decode cX5_isLetter 9 = .ok (.if_icmp .gt 7, 3) := by decide +kernel
theorem dX5_isLetter_12 : decode cX5_isLetter 12 = .ok (.iconst 1, 1) := by decide +kernel
theorem dX5_isLetter_13 : decode cX5_isLetter 13 = .ok (.goto 4, 3) := by decide +kernel
theorem dX5_isLetter_16 : decode cX5_isLetter 16 = .ok (.iconst 0, 1) := by decide +kernel
theorem dX5_isLetter_17 : decode cX5_isLetter 17 = .ok (.ireturn, 1) := by decide +kernel
theorem dX5_isDigit_0 : decode cX5_isDigit 0 = .ok (.iload_n 0, 1) := by decide +kernel
theorem dX5_isDigit_1 : decode cX5_isDigit 1 = .ok (.bipush 48, 2) := by decide +kernel
theorem dX5_isDigit_3 : decode cX5_isDigit 3 = .ok (.if_icmp .lt 13, 3) := by decide +kernel
theorem dX5_isDigit_6 : decode cX5_isDigit 6 = .ok (.iload_n 0, 1) := by decide +kernel
theorem dX5_isDigit_7 : decode cX5_isDigit 7 = .ok (.bipush 57, 2) := by decide +kernel
theorem dX5_isDigit_9 : decode cX5_isDigit 9 = .ok (.if_icmp .gt 7, 3) := by decide +kernel
theorem dX5_isDigit_12 : decode cX5_isDigit 12 = .ok (.iconst 1, 1) := by decide +kernel
theorem dX5_isDigit_13 : decode cX5_isDigit 13 = .ok (.goto 4, 3) := by decide +kernel
theorem dX5_isDigit_16 : decode cX5_isDigit 16 = .ok (.iconst 0, 1) := by decide +kernel
theorem dX5_isDigit_17 : decode cX5_isDigit 17 = .ok (.ireturn, 1) := by decide +kernel
theorem dX5_isSignByte_0 : decode cX5_isSignByte 0 = .ok (.iload_n 0, 1) := by decide +kernel
theorem dX5_isSignByte_1 : decode cX5_isSignByte 1 = .ok (.bipush 58, 2) := by decide +kernel
theorem dX5_isSignByte_3 : decode cX5_isSignByte 3 = .ok (.if_icmp .eq 27, 3) := by decide +kernel
theorem dX5_isSignByte_6 : decode cX5_isSignByte 6 = .ok (.iload_n 0, 1) := by decide +kernel
theorem dX5_isSignByte_7 : decode cX5_isSignByte 7 = .ok (.bipush 59, 2) := by decide +kernel
theorem dX5_isSignByte_9 : decode cX5_isSignByte 9 = .ok (.if_icmp .eq 21, 3) := by decide +kernel
theorem dX5_isSignByte_12 : decode cX5_isSignByte 12 = .ok (.iload_n 0, 1) := by decide +kernel
theorem dX5_isSignByte_13 : decode cX5_isSignByte 13 = .ok (.bipush 60, 2) := by decide +kernel
theorem dX5_isSignByte_15 : decode cX5_isSignByte 15 = .ok (.if_icmp .eq 15, 3) := by decide +kernel
theorem dX5_isSignByte_18 : decode cX5_isSignByte 18 = .ok (.iload_n 0, 1) := by decide +kernel
theorem dX5_isSignByte_19 : decode cX5_isSignByte 19 = .ok (.bipush 62, 2) := by decide +kernel
theorem dX5_isSignByte_21 : decode cX5_isSignByte 21 = .ok (.if_icmp .eq 9, 3) := by decide +kernel
theorem dX5_isSignByte_24 : decode cX5_isSignByte 24 = .ok (.iload_n 0, 1) := by decide +kernel
theorem dX5_isSignByte_25 : decode cX5_isSignByte 25 = .ok (.bipush 61, 2) := by decide +kernel
theorem dX5_isSignByte_27 : decode cX5_isSignByte 27 = .ok (.if_icmp .ne 7, 3) := by decide +kernel
theorem dX5_isSignByte_30 : decode cX5_isSignByte 30 = .ok (.iconst 1, 1) := by decide +kernel
theorem dX5_isSignByte_31 : decode cX5_isSignByte 31 = .ok (.goto 4, 3) := by decide +kernel
theorem dX5_isSignByte_34 : decode cX5_isSignByte 34 = .ok (.iconst 0, 1) := by decide +kernel
theorem dX5_isSignByte_35 : decode cX5_isSignByte 35 = .ok (.ireturn, 1) := by decide +kernel
theorem dX6_init_0 : decode cX6_init 0 = .ok (.aload_n 0, 1) := by decide +kernel
theorem dX6_init_1 : decode cX6_init 1 = .ok (.invokespecial 3, 3) := by decide +kernel
theorem dX6_init_4 : decode cX6_init 4 = .ok (.aload_n 0, 1) := by decide +kernel
theorem dX6_init_5 : decode cX6_init 5 = .ok (.iconst 0, 1) := by decide +kernel
theorem dX6_init_6 : decode cX6_init 6 = .ok (.putfield 9, 3) := by decide +kernel
theorem dX6_init_9 : decode cX6_init 9 = .ok (.aload_n 0, 1) := by decide +kernel
theorem dX6_init_10 : decode cX6_init 10 = .ok (.bipush 16, 2) := by decide +kernel
theorem dX6_init_12 : decode cX6_init 12 = .ok (.newarray .int, 2) := by decide +kernel
theorem dX6_init_14 : decode cX6_init 14 = .ok (.putfield 15, 3) := by decide +kernel
theorem dX6_init_17 : decode cX6_init 17 = .ok (.aload_n 0, 1) := by decide +kernel
theorem dX6_init_18 : decode cX6_init 18 = .ok (.bipush 16, 2) := by decide +kernel
theorem dX6_init_20 : decode cX6_init 20 = .ok (.newarray .int, 2) := by decide +kernel
theorem dX6_init_22 : decode cX6_init 22 = .ok (.putfield 19, 3) := by decide +kernel
theorem dX6_init_25 : decode cX6_init 25 = .ok (.aload_n 0, 1) := by decide +kernel
theorem dX6_init_26 : decode cX6_init 26 = .ok (.bipush 16, 2) := by decide +kernel
theorem dX6_init_28 : decode cX6_init 28 = .ok (.newarray .int, 2) := by decide +kernel
theorem dX6_init_30 : decode cX6_init 30 = .ok (.putfield 22, 3) := by decide +kernel
theorem dX6_init_33 : decode cX6_init 33 = .ok (.aload_n 0, 1) := by decide +kernel
theorem dX6_init_34 : decode cX6_init 34 = .ok (.bipush 16, 2) := by decide +kernel
theorem dX6_init_36 : decode cX6_init 36 = .ok (.newarray .int, 2) := by decide +kernel
theorem dX6_init_38 : decode cX6_init 38 = .ok (.putfield 25, 3) := by decide +kernel
theorem dX6_init_41 : decode cX6_init 41 = .ok (.aload_n 0, 1) := by decide +kernel
theorem dX6_init_42 : decode cX6_init 42 = .ok (.bipush 64, 2) := by decide +kernel
theorem dX6_init_44 : decode cX6_init 44 = .ok (.newarray .int, 2) := by decide +kernel
theorem dX6_init_46 : decode cX6_init 46 = .ok (.putfield 28, 3) := by decide +kernel
theorem dX6_init_49 : decode cX6_init 49 = .ok (.aload_n 0, 1) := by decide +kernel
theorem dX6_init_50 : decode cX6_init 50 = .ok (.bipush 64, 2) := by decide +kernel
theorem dX6_init_52 : decode cX6_init 52 = .ok (.newarray .int, 2) := by decide +kernel
theorem dX6_init_54 : decode cX6_init 54 = .ok (.putfield 31, 3) := by decide +kernel
theorem dX6_init_57 : decode cX6_init 57 = .ok (.aload_n 0, 1) := by decide +kernel
theorem dX6_init_58 : decode cX6_init 58 = .ok (.bipush 64, 2) := by decide +kernel
theorem dX6_init_60 : decode cX6_init 60 = .ok (.newarray .int, 2) := by decide +kernel
theorem dX6_init_62 : decode cX6_init 62 = .ok (.putfield 34, 3) := by decide +kernel
theorem dX6_init_65 : decode cX6_init 65 = .ok (.aload_n 0, 1) := by decide +kernel
theorem dX6_init_66 : decode cX6_init 66 = .ok (.bipush 64, 2) := by decide +kernel
theorem dX6_init_68 : decode cX6_init 68 = .ok (.newarray .boolean, 2) := by decide +kernel
theorem dX6_init_70 : decode cX6_init 70 = .ok (.putfield 37, 3) := by decide +kernel
theorem dX6_init_73 : decode cX6_init 73 = .ok (.return_, 1) := by decide +kernel
theorem dX6_setDeed_0 : decode cX6_setDeed 0 = .ok (.iload_n 1, 1) := by decide +kernel
theorem dX6_setDeed_1 : decode cX6_setDeed 1 = .ok (.invokestatic 41, 3) := by decide +kernel
theorem dX6_setDeed_4 : decode cX6_setDeed 4 = .ok (.ifCond .ne 4, 3) := by decide +kernel
theorem dX6_setDeed_7 : decode cX6_setDeed 7 = .ok (.return_, 1) := by decide +kernel
theorem dX6_setDeed_8 : decode cX6_setDeed 8 = .ok (.aload_n 0, 1) := by decide +kernel
theorem dX6_setDeed_9 : decode cX6_setDeed 9 = .ok (.getfield 15, 3) := by decide +kernel
theorem dX6_setDeed_12 : decode cX6_setDeed 12 = .ok (.iload_n 1, 1) := by decide +kernel
theorem dX6_setDeed_13 : decode cX6_setDeed 13 = .ok (.iload_n 2, 1) := by decide +kernel
theorem dX6_setDeed_14 : decode cX6_setDeed 14 = .ok (.iastore, 1) := by decide +kernel
theorem dX6_setDeed_15 : decode cX6_setDeed 15 = .ok (.aload_n 0, 1) := by decide +kernel
theorem dX6_setDeed_16 : decode cX6_setDeed 16 = .ok (.getfield 19, 3) := by decide +kernel
theorem dX6_setDeed_19 : decode cX6_setDeed 19 = .ok (.iload_n 1, 1) := by decide +kernel
theorem dX6_setDeed_20 : decode cX6_setDeed 20 = .ok (.iload_n 3, 1) := by decide +kernel
theorem dX6_setDeed_21 : decode cX6_setDeed 21 = .ok (.iastore, 1) := by decide +kernel
theorem dX6_setDeed_22 : decode cX6_setDeed 22 = .ok (.aload_n 0, 1) := by decide +kernel
theorem dX6_setDeed_23 : decode cX6_setDeed 23 = .ok (.getfield 22, 3) := by decide +kernel
theorem dX6_setDeed_26 : decode cX6_setDeed 26 = .ok (.iload_n 1, 1) := by decide +kernel
theorem dX6_setDeed_27 : decode cX6_setDeed 27 = .ok (.iload 4, 2) := by decide +kernel
theorem dX6_setDeed_29 : decode cX6_setDeed 29 = .ok (.iastore, 1) := by decide +kernel
theorem dX6_setDeed_30 : decode cX6_setDeed 30 = .ok (.return_, 1) := by decide +kernel
theorem dX6_clearTests_0 : decode cX6_clearTests 0 = .ok (.iload_n 1, 1) := by decide +kernel
theorem dX6_clearTests_1 : decode cX6_clearTests 1 = .ok (.invokestatic 41, 3) := by decide +kernel
theorem dX6_clearTests_4 : decode cX6_clearTests 4 = .ok (.ifCond .eq 10, 3) := by decide +kernel
theorem dX6_clearTests_7 : decode cX6_clearTests 7 = .ok (.aload_n 0, 1) := by decide +kernel
theorem dX6_clearTests_8 : decode cX6_clearTests 8 = .ok (.getfield 25, 3) := by decide +kernel
theorem dX6_clearTests_11 : decode cX6_clearTests 11 = .ok (.iload_n 1, 1) := by decide +kernel
theorem dX6_clearTests_12 : decode cX6_clearTests 12 = .ok (.iconst 0, 1) := by decide +kernel
theorem dX6_clearTests_13 : decode cX6_clearTests 13 = .ok (.iastore, 1) := by decide +kernel
theorem dX6_clearTests_14 : decode cX6_clearTests 14 = .ok (.return_, 1) := by decide +kernel
theorem dX6_addTest_0 : decode cX6_addTest 0 = .ok (.iload_n 1, 1) := by decide +kernel
theorem dX6_addTest_1 : decode cX6_addTest 1 = .ok (.invokestatic 41, 3) := by decide +kernel
theorem dX6_addTest_4 : decode cX6_addTest 4 = .ok (.ifCond .eq 13, 3) := by decide +kernel
theorem dX6_addTest_7 : decode cX6_addTest 7 = .ok (.aload_n 0, 1) := by decide +kernel
theorem dX6_addTest_8 : decode cX6_addTest 8 = .ok (.getfield 25, 3) := by decide +kernel
theorem dX6_addTest_11 : decode cX6_addTest 11 = .ok (.iload_n 1, 1) := by decide +kernel
theorem dX6_addTest_12 : decode cX6_addTest 12 = .ok (.iaload, 1) := by decide +kernel
theorem dX6_addTest_13 : decode cX6_addTest 13 = .ok (.iconst 4, 1) := by decide +kernel
theorem dX6_addTest_14 : decode cX6_addTest 14 = .ok (.if_icmp .lt 4, 3) := by decide +kernel
theorem dX6_addTest_17 : decode cX6_addTest 17 = .ok (.return_, 1) := by decide +kernel
theorem dX6_addTest_18 : decode cX6_addTest 18 = .ok (.iload_n 1, 1) := by decide +kernel
theorem dX6_addTest_19 : decode cX6_addTest 19 = .ok (.iconst 4, 1) := by decide +kernel
theorem dX6_addTest_20 : decode cX6_addTest 20 = .ok (.imul, 1) := by decide +kernel
theorem dX6_addTest_21 : decode cX6_addTest 21 = .ok (.aload_n 0, 1) := by decide +kernel
theorem dX6_addTest_22 : decode cX6_addTest 22 = .ok (.getfield 25, 3) := by decide +kernel
theorem dX6_addTest_25 : decode cX6_addTest 25 = .ok (.iload_n 1, 1) := by decide +kernel
theorem dX6_addTest_26 : decode cX6_addTest 26 = .ok (.iaload, 1) := by decide +kernel
theorem dX6_addTest_27 : decode cX6_addTest 27 = .ok (.iadd, 1) := by decide +kernel
theorem dX6_addTest_28 : decode cX6_addTest 28 = .ok (.istore 6, 2) := by decide +kernel
theorem dX6_addTest_30 : decode cX6_addTest 30 = .ok (.aload_n 0, 1) := by decide +kernel
theorem dX6_addTest_31 : decode cX6_addTest 31 = .ok (.getfield 37, 3) := by decide +kernel
theorem dX6_addTest_34 : decode cX6_addTest 34 = .ok (.iload 6, 2) := by decide +kernel
theorem dX6_addTest_36 : decode cX6_addTest 36 = .ok (.iload_n 2, 1) := by decide +kernel
theorem dX6_addTest_37 : decode cX6_addTest 37 = .ok (.bastore, 1) := by decide +kernel
theorem dX6_addTest_38 : decode cX6_addTest 38 = .ok (.aload_n 0, 1) := by decide +kernel
theorem dX6_addTest_39 : decode cX6_addTest 39 = .ok (.getfield 28, 3) := by decide +kernel
theorem dX6_addTest_42 : decode cX6_addTest 42 = .ok (.iload 6, 2) := by decide +kernel
theorem dX6_addTest_44 : decode cX6_addTest 44 = .ok (.iload_n 3, 1) := by decide +kernel
theorem dX6_addTest_45 : decode cX6_addTest 45 = .ok (.iastore, 1) := by decide +kernel
theorem dX6_addTest_46 : decode cX6_addTest 46 = .ok (.aload_n 0, 1) := by decide +kernel
theorem dX6_addTest_47 : decode cX6_addTest 47 = .ok (.getfield 31, 3) := by decide +kernel
theorem dX6_addTest_50 : decode cX6_addTest 50 = .ok (.iload 6, 2) := by decide +kernel
theorem dX6_addTest_52 : decode cX6_addTest 52 = .ok (.iload 4, 2) := by decide +kernel
theorem dX6_addTest_54 : decode cX6_addTest 54 = .ok (.iastore, 1) := by decide +kernel
theorem dX6_addTest_55 : decode cX6_addTest 55 = .ok (.aload_n 0, 1) := by decide +kernel
theorem dX6_addTest_56 : decode cX6_addTest 56 = .ok (.getfield 34, 3) := by decide +kernel
theorem dX6_addTest_59 : decode cX6_addTest 59 = .ok (.iload 6, 2) := by decide +kernel
theorem dX6_addTest_61 : decode cX6_addTest 61 = .ok (.iload 5, 2) := by decide +kernel
theorem dX6_addTest_63 : decode cX6_addTest 63 = .ok (.iastore, 1) := by decide +kernel
theorem dX6_addTest_64 : decode cX6_addTest 64 = .ok (.aload_n 0, 1) := by decide +kernel
theorem dX6_addTest_65 : decode cX6_addTest 65 = .ok (.getfield 25, 3) := by decide +kernel
theorem dX6_addTest_68 : decode cX6_addTest 68 = .ok (.iload_n 1, 1) := by decide +kernel
theorem dX6_addTest_69 : decode cX6_addTest 69 = .ok (.dup2, 1) := by decide +kernel
theorem dX6_addTest_70 : decode cX6_addTest 70 = .ok (.iaload, 1) := by decide +kernel
theorem dX6_addTest_71 : decode cX6_addTest 71 = .ok (.iconst 1, 1) := by decide +kernel
theorem dX6_addTest_72 : decode cX6_addTest 72 = .ok (.iadd, 1) := by decide +kernel
theorem dX6_addTest_73 : decode cX6_addTest 73 = .ok (.iastore, 1) := by decide +kernel
theorem dX6_addTest_74 : decode cX6_addTest 74 = .ok (.return_, 1) := by decide +kernel
theorem dX6_holds_0 : decode cX6_holds 0 = .ok (.iload_n 1, 1) := by decide +kernel
theorem dX6_holds_1 : decode cX6_holds 1 = .ok (.invokestatic 41, 3) := by decide +kernel
theorem dX6_holds_4 : decode cX6_holds 4 = .ok (.ifCond .ne 5, 3) := by decide +kernel
theorem dX6_holds_7 : decode cX6_holds 7 = .ok (.iconst 0, 1) := by decide +kernel
theorem dX6_holds_8 : decode cX6_holds 8 = .ok (.ireturn, 1) := by decide +kernel
theorem dX6_holds_9 : decode cX6_holds 9 = .ok (.iconst 0, 1) := by decide +kernel
theorem dX6_holds_10 : decode cX6_holds 10 = .ok (.istore_n 3, 1) := by decide +kernel
theorem dX6_holds_11 : decode cX6_holds 11 = .ok (.iload_n 3, 1) := by decide +kernel
theorem dX6_holds_12 : decode cX6_holds 12 = .ok (.aload_n 0, 1) := by decide +kernel
theorem dX6_holds_13 : decode cX6_holds 13 = .ok (.getfield 25, 3) := by decide +kernel
theorem dX6_holds_16 : decode cX6_holds 16 = .ok (.iload_n 1, 1) := by decide +kernel
theorem dX6_holds_17 : decode cX6_holds 17 = .ok (.iaload, 1) := by decide +kernel
theorem dX6_holds_18 : decode cX6_holds 18 = .ok (.if_icmp .ge 39, 3) := by decide +kernel
theorem dX6_holds_21 : decode cX6_holds 21 = .ok (.iload_n 3, 1) := by decide +kernel
theorem dX6_holds_22 : decode cX6_holds 22 = .ok (.iconst 4, 1) := by decide +kernel
theorem dX6_holds_23 : decode cX6_holds 23 = .ok (.if_icmp .ge 34, 3) := by decide +kernel
theorem dX6_holds_26 : decode cX6_holds 26 = .ok (.aload_n 0, 1) := by decide +kernel
theorem dX6_holds_27 : decode cX6_holds 27 = .ok (.iload_n 1, 1) := by decide +kernel
theorem dX6_holds_28 : decode cX6_holds 28 = .ok (.iconst 4, 1) := by decide +kernel
theorem dX6_holds_29 : decode cX6_holds 29 = .ok (.imul, 1) := by decide +kernel
theorem dX6_holds_30 : decode cX6_holds 30 = .ok (.iload_n 3, 1) := by decide +kernel
theorem dX6_holds_31 : decode cX6_holds 31 = .ok (.iadd, 1) := by decide +kernel
theorem dX6_holds_32 : decode cX6_holds 32 = .ok (.aload_n 2, 1) := by decide +kernel
theorem dX6_holds_33 : decode cX6_holds 33 = .ok (.invokevirtual 45, 3) := by decide +kernel
theorem dX6_holds_36 : decode cX6_holds 36 = .ok (.aload_n 0, 1) := by decide +kernel
theorem dX6_holds_37 : decode cX6_holds 37 = .ok (.getfield 37, 3) := by decide +kernel
theorem dX6_holds_40 : decode cX6_holds 40 = .ok (.iload_n 1, 1) := by decide +kernel
theorem dX6_holds_41 : decode cX6_holds 41 = .ok (.iconst 4, 1) := by decide +kernel
theorem dX6_holds_42 : decode cX6_holds 42 = .ok (.imul, 1) := by decide +kernel
theorem dX6_holds_43 : decode cX6_holds 43 = .ok (.iload_n 3, 1) := by decide +kernel
theorem dX6_holds_44 : decode cX6_holds 44 = .ok (.iadd, 1) := by decide +kernel
theorem dX6_holds_45 : decode cX6_holds 45 = .ok (.baload, 1) := by decide +kernel
theorem dX6_holds_46 : decode cX6_holds 46 = .ok (.if_icmp .ne 5, 3) := by decide +kernel
theorem dX6_holds_49 : decode cX6_holds 49 = .ok (.iconst 0, 1) := by decide +kernel
theorem dX6_holds_50 : decode cX6_holds 50 = .ok (.ireturn, 1) := by decide +kernel
theorem dX6_holds_51 : decode cX6_holds 51 = .ok (.iinc 3 1, 3) := by decide +kernel
theorem dX6_holds_54 : decode cX6_holds 54 = .ok (.goto (-43), 3) := by decide +kernel
theorem dX6_holds_57 : decode cX6_holds 57 = .ok (.iconst 1, 1) := by decide +kernel
theorem dX6_holds_58 : decode cX6_holds 58 = .ok (.ireturn, 1) := by decide +kernel
theorem dX6_deedOf_0 : decode cX6_deedOf 0 = .ok (.iload_n 1, 1) := by decide +kernel
theorem dX6_deedOf_1 : decode cX6_deedOf 1 = .ok (.invokestatic 41, 3) := by decide +kernel
theorem dX6_deedOf_4 : decode cX6_deedOf 4 = .ok (.ifCond .eq 12, 3) := by decide +kernel
theorem dX6_deedOf_7 : decode cX6_deedOf 7 = .ok (.aload_n 0, 1) := by decide +kernel
theorem dX6_deedOf_8 : decode cX6_deedOf 8 = .ok (.getfield 15, 3) := by decide +kernel
theorem dX6_deedOf_11 : decode cX6_deedOf 11 = .ok (.iload_n 1, 1) := by decide +kernel
theorem dX6_deedOf_12 : decode cX6_deedOf 12 = .ok (.iaload, 1) := by decide +kernel
theorem dX6_deedOf_13 : decode cX6_deedOf 13 = .ok (.goto 4, 3) := by decide +kernel
theorem dX6_deedOf_16 : decode cX6_deedOf 16 = .ok (.iconst (-1), 1) := by decide +kernel
theorem dX6_deedOf_17 : decode cX6_deedOf 17 = .ok (.ireturn, 1) := by decide +kernel
theorem dX6_leastOf_0 : decode cX6_leastOf 0 = .ok (.iload_n 1, 1) := by decide +kernel
theorem dX6_leastOf_1 : decode cX6_leastOf 1 = .ok (.invokestatic 41, 3) := by decide +kernel
theorem dX6_leastOf_4 : decode cX6_leastOf 4 = .ok (.ifCond .eq 12, 3) := by decide +kernel
theorem dX6_leastOf_7 : decode cX6_leastOf 7 = .ok (.aload_n 0, 1) := by decide +kernel
theorem dX6_leastOf_8 : decode cX6_leastOf 8 = .ok (.getfield 19, 3) := by decide +kernel
theorem dX6_leastOf_11 : decode cX6_leastOf 11 = .ok (.iload_n 1, 1) := by decide +kernel
theorem dX6_leastOf_12 : decode cX6_leastOf 12 = .ok (.iaload, 1) := by decide +kernel
theorem dX6_leastOf_13 : decode cX6_leastOf 13 = .ok (.goto 4, 3) := by decide +kernel
theorem dX6_leastOf_16 : decode cX6_leastOf 16 = .ok (.iconst 0, 1) := by decide +kernel
theorem dX6_leastOf_17 : decode cX6_leastOf 17 = .ok (.ireturn, 1) := by decide +kernel
theorem dX6_mostOf_0 : decode cX6_mostOf 0 = .ok (.iload_n 1, 1) := by decide +kernel
theorem dX6_mostOf_1 : decode cX6_mostOf 1 = .ok (.invokestatic 41, 3) := by decide +kernel
theorem dX6_mostOf_4 : decode cX6_mostOf 4 = .ok (.ifCond .eq 12, 3) := by decide +kernel
theorem dX6_mostOf_7 : decode cX6_mostOf 7 = .ok (.aload_n 0, 1) := by decide +kernel
theorem dX6_mostOf_8 : decode cX6_mostOf 8 = .ok (.getfield 22, 3) := by decide +kernel
theorem dX6_mostOf_11 : decode cX6_mostOf 11 = .ok (.iload_n 1, 1) := by decide +kernel
theorem dX6_mostOf_12 : decode cX6_mostOf 12 = .ok (.iaload, 1) := by decide +kernel
theorem dX6_mostOf_13 : decode cX6_mostOf 13 = .ok (.goto 4, 3) := by decide +kernel
theorem dX6_mostOf_16 : decode cX6_mostOf 16 = .ok (.iconst 0, 1) := by decide +kernel
theorem dX6_mostOf_17 : decode cX6_mostOf 17 = .ok (.ireturn, 1) := by decide +kernel
theorem dX6_copyFrom_0 : decode cX6_copyFrom 0 = .ok (.aload_n 0, 1) := by decide +kernel
theorem dX6_copyFrom_1 : decode cX6_copyFrom 1 = .ok (.aload_n 1, 1) := by decide +kernel
theorem dX6_copyFrom_2 : decode cX6_copyFrom 2 = .ok (.getfield 9, 3) := by decide +kernel
theorem dX6_copyFrom_5 : decode cX6_copyFrom 5 = .ok (.putfield 9, 3) := by decide +kernel
theorem dX6_copyFrom_8 : decode cX6_copyFrom 8 = .ok (.aload_n 1, 1) := by decide +kernel
theorem dX6_copyFrom_9 : decode cX6_copyFrom 9 = .ok (.getfield 15, 3) := by decide +kernel
theorem dX6_copyFrom_12 : decode cX6_copyFrom 12 = .ok (.iconst 0, 1) := by decide +kernel
theorem dX6_copyFrom_13 : decode cX6_copyFrom 13 = .ok (.aload_n 0, 1) := by decide +kernel
theorem dX6_copyFrom_14 : decode cX6_copyFrom 14 = .ok (.getfield 15, 3) := by decide +kernel
theorem dX6_copyFrom_17 : decode cX6_copyFrom 17 = .ok (.iconst 0, 1) := by decide +kernel
theorem dX6_copyFrom_18 : decode cX6_copyFrom 18 = .ok (.bipush 16, 2) := by decide +kernel
theorem dX6_copyFrom_20 : decode cX6_copyFrom 20 = .ok (.invokestatic 49, 3) := by decide +kernel
theorem dX6_copyFrom_23 : decode cX6_copyFrom 23 = .ok (.aload_n 1, 1) := by decide +kernel
theorem dX6_copyFrom_24 : decode cX6_copyFrom 24 = .ok (.getfield 19, 3) := by decide +kernel
theorem dX6_copyFrom_27 : decode cX6_copyFrom 27 = .ok (.iconst 0, 1) := by decide +kernel
theorem dX6_copyFrom_28 : decode cX6_copyFrom 28 = .ok (.aload_n 0, 1) := by decide +kernel
theorem dX6_copyFrom_29 : decode cX6_copyFrom 29 = .ok (.getfield 19, 3) := by decide +kernel
theorem dX6_copyFrom_32 : decode cX6_copyFrom 32 = .ok (.iconst 0, 1) := by decide +kernel
theorem dX6_copyFrom_33 : decode cX6_copyFrom 33 = .ok (.bipush 16, 2) := by decide +kernel
theorem dX6_copyFrom_35 : decode cX6_copyFrom 35 = .ok (.invokestatic 49, 3) := by decide +kernel
theorem dX6_copyFrom_38 : decode cX6_copyFrom 38 = .ok (.aload_n 1, 1) := by decide +kernel
theorem dX6_copyFrom_39 : decode cX6_copyFrom 39 = .ok (.getfield 22, 3) := by decide +kernel
theorem dX6_copyFrom_42 : decode cX6_copyFrom 42 = .ok (.iconst 0, 1) := by decide +kernel
theorem dX6_copyFrom_43 : decode cX6_copyFrom 43 = .ok (.aload_n 0, 1) := by decide +kernel
theorem dX6_copyFrom_44 : decode cX6_copyFrom 44 = .ok (.getfield 22, 3) := by decide +kernel
theorem dX6_copyFrom_47 : decode cX6_copyFrom 47 = .ok (.iconst 0, 1) := by decide +kernel
theorem dX6_copyFrom_48 : decode cX6_copyFrom 48 = .ok (.bipush 16, 2) := by decide +kernel
theorem dX6_copyFrom_50 : decode cX6_copyFrom 50 = .ok (.invokestatic 49, 3) := by decide +kernel
theorem dX6_copyFrom_53 : decode cX6_copyFrom 53 = .ok (.aload_n 1, 1) := by decide +kernel
theorem dX6_copyFrom_54 : decode cX6_copyFrom 54 = .ok (.getfield 25, 3) := by decide +kernel
theorem dX6_copyFrom_57 : decode cX6_copyFrom 57 = .ok (.iconst 0, 1) := by decide +kernel
theorem dX6_copyFrom_58 : decode cX6_copyFrom 58 = .ok (.aload_n 0, 1) := by decide +kernel
theorem dX6_copyFrom_59 : decode cX6_copyFrom 59 = .ok (.getfield 25, 3) := by decide +kernel
theorem dX6_copyFrom_62 : decode cX6_copyFrom 62 = .ok (.iconst 0, 1) := by decide +kernel
theorem dX6_copyFrom_63 : decode cX6_copyFrom 63 = .ok (.bipush 16, 2) := by decide +kernel
theorem dX6_copyFrom_65 : decode cX6_copyFrom 65 = .ok (.invokestatic 49, 3) := by decide +kernel
theorem dX6_copyFrom_68 : decode cX6_copyFrom 68 = .ok (.aload_n 1, 1) := by decide +kernel
theorem dX6_copyFrom_69 : decode cX6_copyFrom 69 = .ok (.getfield 28, 3) := by decide +kernel
theorem dX6_copyFrom_72 : decode cX6_copyFrom 72 = .ok (.iconst 0, 1) := by decide +kernel
theorem dX6_copyFrom_73 : decode cX6_copyFrom 73 = .ok (.aload_n 0, 1) := by decide +kernel
theorem dX6_copyFrom_74 : decode cX6_copyFrom 74 = .ok (.getfield 28, 3) := by decide +kernel
theorem dX6_copyFrom_77 : decode cX6_copyFrom 77 = .ok (.iconst 0, 1) := by decide +kernel
theorem dX6_copyFrom_78 : decode cX6_copyFrom 78 = .ok (.bipush 64, 2) := by decide +kernel
theorem dX6_copyFrom_80 : decode cX6_copyFrom 80 = .ok (.invokestatic 49, 3) := by decide +kernel
theorem dX6_copyFrom_83 : decode cX6_copyFrom 83 = .ok (.aload_n 1, 1) := by decide +kernel
theorem dX6_copyFrom_84 : decode cX6_copyFrom 84 = .ok (.getfield 31, 3) := by decide +kernel
theorem dX6_copyFrom_87 : decode cX6_copyFrom 87 = .ok (.iconst 0, 1) := by decide +kernel
theorem dX6_copyFrom_88 : decode cX6_copyFrom 88 = .ok (.aload_n 0, 1) := by decide +kernel
theorem dX6_copyFrom_89 : decode cX6_copyFrom 89 = .ok (.getfield 31, 3) := by decide +kernel
theorem dX6_copyFrom_92 : decode cX6_copyFrom 92 = .ok (.iconst 0, 1) := by decide +kernel
theorem dX6_copyFrom_93 : decode cX6_copyFrom 93 = .ok (.bipush 64, 2) := by decide +kernel
theorem dX6_copyFrom_95 : decode cX6_copyFrom 95 = .ok (.invokestatic 49, 3) := by decide +kernel
theorem dX6_copyFrom_98 : decode cX6_copyFrom 98 = .ok (.aload_n 1, 1) := by decide +kernel
theorem dX6_copyFrom_99 : decode cX6_copyFrom 99 = .ok (.getfield 34, 3) := by decide +kernel
theorem dX6_copyFrom_102 : decode cX6_copyFrom 102 = .ok (.iconst 0, 1) := by decide +kernel
theorem dX6_copyFrom_103 : decode cX6_copyFrom 103 = .ok (.aload_n 0, 1) := by decide +kernel
theorem dX6_copyFrom_104 : decode cX6_copyFrom 104 = .ok (.getfield 34, 3) := by decide +kernel
theorem dX6_copyFrom_107 : decode cX6_copyFrom 107 = .ok (.iconst 0, 1) := by decide +kernel
theorem dX6_copyFrom_108 : decode cX6_copyFrom 108 = .ok (.bipush 64, 2) := by decide +kernel
theorem dX6_copyFrom_110 : decode cX6_copyFrom 110 = .ok (.invokestatic 49, 3) := by decide +kernel
theorem dX6_copyFrom_113 : decode cX6_copyFrom 113 = .ok (.aload_n 1, 1) := by decide +kernel
theorem dX6_copyFrom_114 : decode cX6_copyFrom 114 = .ok (.getfield 37, 3) := by decide +kernel
theorem dX6_copyFrom_117 : decode cX6_copyFrom 117 = .ok (.iconst 0, 1) := by decide +kernel
theorem dX6_copyFrom_118 : decode cX6_copyFrom 118 = .ok (.aload_n 0, 1) := by decide +kernel
theorem dX6_copyFrom_119 : decode cX6_copyFrom 119 = .ok (.getfield 37, 3) := by decide +kernel
theorem dX6_copyFrom_122 : decode cX6_copyFrom 122 = .ok (.iconst 0, 1) := by decide +kernel
theorem dX6_copyFrom_123 : decode cX6_copyFrom 123 = .ok (.bipush 64, 2) := by decide +kernel
theorem dX6_copyFrom_125 : decode cX6_copyFrom 125 = .ok (.invokestatic 49, 3) := by decide +kernel
theorem dX6_copyFrom_128 : decode cX6_copyFrom 128 = .ok (.return_, 1) := by decide +kernel
theorem dX6_hasLine_0 : decode cX6_hasLine 0 = .ok (.iload_n 0, 1) := by decide +kernel
theorem dX6_hasLine_1 : decode cX6_hasLine 1 = .ok (.ifCond .lt 13, 3) := by decide +kernel
theorem dX6_hasLine_4 : decode cX6_hasLine 4 = .ok (.iload_n 0, 1) := by decide +kernel
theorem dX6_hasLine_5 : decode cX6_hasLine 5 = .ok (.bipush 16, 2) := by decide +kernel
theorem dX6_hasLine_7 : decode cX6_hasLine 7 = .ok (.if_icmp .ge 7, 3) := by decide +kernel
theorem dX6_hasLine_10 : decode cX6_hasLine 10 = .ok (.iconst 1, 1) := by decide +kernel
theorem dX6_hasLine_11 : decode cX6_hasLine 11 = .ok (.goto 4, 3) := by decide +kernel
theorem dX6_hasLine_14 : decode cX6_hasLine 14 = .ok (.iconst 0, 1) := by decide +kernel
theorem dX6_hasLine_15 : decode cX6_hasLine 15 = .ok (.ireturn, 1) := by decide +kernel
theorem dX6_passes_0 : decode cX6_passes 0 = .ok (.aload_n 0, 1) := by decide +kernel
theorem dX6_passes_1 : decode cX6_passes 1 = .ok (.getfield 28, 3) := by decide +kernel
theorem dX6_passes_4 : decode cX6_passes 4 = .ok (.iload_n 1, 1) := by decide +kernel
theorem dX6_passes_5 : decode cX6_passes 5 = .ok (.iaload, 1) := by decide +kernel
theorem dX6_passes_6 : decode cX6_passes 6 = .ok (.istore_n 3, 1) := by decide +kernel
theorem dX6_passes_7 : decode cX6_passes 7 = .ok (.iload_n 3, 1) := by decide +kernel
theorem dX6_passes_8 : decode cX6_passes 8 = .ok (.ifCond .lt 9, 3) := by decide +kernel
theorem dX6_passes_11 : decode cX6_passes 11 = .ok (.iload_n 3, 1) := by decide +kernel
theorem dX6_passes_12 : decode cX6_passes 12 = .ok (.aload_n 2, 1) := by decide +kernel
theorem dX6_passes_13 : decode cX6_passes 13 = .ok (.arraylength, 1) := by decide +kernel
theorem dX6_passes_14 : decode cX6_passes 14 = .ok (.if_icmp .lt 5, 3) := by decide +kernel
theorem dX6_passes_17 : decode cX6_passes 17 = .ok (.iconst 0, 1) := by decide +kernel
theorem dX6_passes_18 : decode cX6_passes 18 = .ok (.ireturn, 1) := by decide +kernel
theorem dX6_passes_19 : decode cX6_passes 19 = .ok (.aload_n 0, 1) := by decide +kernel
theorem dX6_passes_20 : decode cX6_passes 20 = .ok (.getfield 31, 3) := by decide +kernel
theorem dX6_passes_23 : decode cX6_passes 23 = .ok (.iload_n 1, 1) := by decide +kernel
theorem dX6_passes_24 : decode cX6_passes 24 = .ok (.iaload, 1) := by decide +kernel
theorem dX6_passes_25 : decode cX6_passes 25 = .ok (.lookupswitch 63 #[(60, 27), (62, 45)], 27) := by decide +kernel
theorem dX6_passes_52 : decode cX6_passes 52 = .ok (.aload_n 2, 1) := by decide +kernel
theorem dX6_passes_53 : decode cX6_passes 53 = .ok (.iload_n 3, 1) := by decide +kernel
theorem dX6_passes_54 : decode cX6_passes 54 = .ok (.iaload, 1) := by decide +kernel
theorem dX6_passes_55 : decode cX6_passes 55 = .ok (.aload_n 0, 1) := by decide +kernel
theorem dX6_passes_56 : decode cX6_passes 56 = .ok (.getfield 34, 3) := by decide +kernel
theorem dX6_passes_59 : decode cX6_passes 59 = .ok (.iload_n 1, 1) := by decide +kernel
theorem dX6_passes_60 : decode cX6_passes 60 = .ok (.iaload, 1) := by decide +kernel
theorem dX6_passes_61 : decode cX6_passes 61 = .ok (.if_icmp .ge 7, 3) := by decide +kernel
theorem dX6_passes_64 : decode cX6_passes 64 = .ok (.iconst 1, 1) := by decide +kernel
theorem dX6_passes_65 : decode cX6_passes 65 = .ok (.goto 4, 3) := by decide +kernel
theorem dX6_passes_68 : decode cX6_passes 68 = .ok (.iconst 0, 1) := by decide +kernel
theorem dX6_passes_69 : decode cX6_passes 69 = .ok (.ireturn, 1) := by decide +kernel
theorem dX6_passes_70 : decode cX6_passes 70 = .ok (.aload_n 2, 1) := by decide +kernel
theorem dX6_passes_71 : decode cX6_passes 71 = .ok (.iload_n 3, 1) := by decide +kernel
theorem dX6_passes_72 : decode cX6_passes 72 = .ok (.iaload, 1) := by decide +kernel
theorem dX6_passes_73 : decode cX6_passes 73 = .ok (.aload_n 0, 1) := by decide +kernel
theorem dX6_passes_74 : decode cX6_passes 74 = .ok (.getfield 34, 3) := by decide +kernel
theorem dX6_passes_77 : decode cX6_passes 77 = .ok (.iload_n 1, 1) := by decide +kernel
theorem dX6_passes_78 : decode cX6_passes 78 = .ok (.iaload, 1) := by decide +kernel
theorem dX6_passes_79 : decode cX6_passes 79 = .ok (.if_icmp .le 7, 3) := by decide +kernel
theorem dX6_passes_82 : decode cX6_passes 82 = .ok (.iconst 1, 1) := by decide +kernel
theorem dX6_passes_83 : decode cX6_passes 83 = .ok (.goto 4, 3) := by decide +kernel
theorem dX6_passes_86 : decode cX6_passes 86 = .ok (.iconst 0, 1) := by decide +kernel
theorem dX6_passes_87 : decode cX6_passes 87 = .ok (.ireturn, 1) := by decide +kernel
theorem dX6_passes_88 : decode cX6_passes 88 = .ok (.aload_n 2, 1) := by decide +kernel
theorem dX6_passes_89 : decode cX6_passes 89 = .ok (.iload_n 3, 1) := by decide +kernel
theorem dX6_passes_90 : decode cX6_passes 90 = .ok (.iaload, 1) := by decide +kernel
theorem dX6_passes_91 : decode cX6_passes 91 = .ok (.aload_n 0, 1) := by decide +kernel
theorem dX6_passes_92 : decode cX6_passes 92 = .ok (.getfield 34, 3) := by decide +kernel
theorem dX6_passes_95 : decode cX6_passes 95 = .ok (.iload_n 1, 1) := by decide +kernel
theorem dX6_passes_96 : decode cX6_passes 96 = .ok (.iaload, 1) := by decide +kernel
theorem dX6_passes_97 : decode cX6_passes 97 = .ok (.if_icmp .ne 7, 3) := by decide +kernel
theorem dX6_passes_100 : decode cX6_passes 100 = .ok (.iconst 1, 1) := by decide +kernel
theorem dX6_passes_101 : decode cX6_passes 101 = .ok (.goto 4, 3) := by decide +kernel
theorem dX6_passes_104 : decode cX6_passes 104 = .ok (.iconst 0, 1) := by decide +kernel
theorem dX6_passes_105 : decode cX6_passes 105 = .ok (.ireturn, 1) := by decide +kernel
theorem dX7_init_0 : decode cX7_init 0 = .ok (.aload_n 0, 1) := by decide +kernel
theorem dX7_init_1 : decode cX7_init 1 = .ok (.invokespecial 3, 3) := by decide +kernel
theorem dX7_init_4 : decode cX7_init 4 = .ok (.aload_n 0, 1) := by decide +kernel
theorem dX7_init_5 : decode cX7_init 5 = .ok (.bipush 10, 2) := by decide +kernel
theorem dX7_init_7 : decode cX7_init 7 = .ok (.putfield 9, 3) := by decide +kernel
theorem dX7_init_10 : decode cX7_init 10 = .ok (.aload_n 0, 1) := by decide +kernel
theorem dX7_init_11 : decode cX7_init 11 = .ok (.bipush 10, 2) := by decide +kernel
theorem dX7_init_13 : decode cX7_init 13 = .ok (.putfield 15, 3) := by decide +kernel
theorem dX7_init_16 : decode cX7_init 16 = .ok (.aload_n 0, 1) := by decide +kernel
theorem dX7_init_17 : decode cX7_init 17 = .ok (.sipush 301, 3) := by decide +kernel
theorem dX7_init_20 : decode cX7_init 20 = .ok (.newarray .int, 2) := by decide +kernel
theorem dX7_init_22 : decode cX7_init 22 = .ok (.putfield 18, 3) := by decide +kernel
theorem dX7_init_25 : decode cX7_init 25 = .ok (.aload_n 0, 1) := by decide +kernel
theorem dX7_init_26 : decode cX7_init 26 = .ok (.sipush 301, 3) := by decide +kernel
theorem dX7_init_29 : decode cX7_init 29 = .ok (.newarray .int, 2) := by decide +kernel
theorem dX7_init_31 : decode cX7_init 31 = .ok (.putfield 22, 3) := by decide +kernel
theorem dX7_init_34 : decode cX7_init 34 = .ok (.aload_n 0, 1) := by decide +kernel
theorem dX7_init_35 : decode cX7_init 35 = .ok (.sipush 301, 3) := by decide +kernel
theorem dX7_init_38 : decode cX7_init 38 = .ok (.newarray .int, 2) := by decide +kernel
theorem dX7_init_40 : decode cX7_init 40 = .ok (.putfield 25, 3) := by decide +kernel
theorem dX7_init_43 : decode cX7_init 43 = .ok (.aload_n 0, 1) := by decide +kernel
theorem dX7_init_44 : decode cX7_init 44 = .ok (.iconst 0, 1) := by decide +kernel
theorem dX7_init_45 : decode cX7_init 45 = .ok (.putfield 28, 3) := by decide +kernel
theorem dX7_init_48 : decode cX7_init 48 = .ok (.aload_n 0, 1) := by decide +kernel
theorem dX7_init_49 : decode cX7_init 49 = .ok (.sipush 1312, 3) := by decide +kernel
theorem dX7_init_52 : decode cX7_init 52 = .ok (.newarray .int, 2) := by decide +kernel
theorem dX7_init_54 : decode cX7_init 54 = .ok (.putfield 31, 3) := by decide +kernel
theorem dX7_init_57 : decode cX7_init 57 = .ok (.return_, 1) := by decide +kernel
theorem dX7_scoreUnits_0 : decode cX7_scoreUnits 0 = .ok (.aload_n 0, 1) := by decide +kernel
theorem dX7_scoreUnits_1 : decode cX7_scoreUnits 1 = .ok (.iload_n 2, 1) := by decide +kernel
theorem dX7_scoreUnits_2 : decode cX7_scoreUnits 2 = .ok (.putfield 9, 3) := by decide +kernel
theorem dX7_scoreUnits_5 : decode cX7_scoreUnits 5 = .ok (.aload_n 0, 1) := by decide +kernel
theorem dX7_scoreUnits_6 : decode cX7_scoreUnits 6 = .ok (.iload_n 3, 1) := by decide +kernel
theorem dX7_scoreUnits_7 : decode cX7_scoreUnits 7 = .ok (.iload_n 2, 1) := by decide +kernel
theorem dX7_scoreUnits_8 : decode cX7_scoreUnits 8 = .ok (.sipush 300, 3) := by decide +kernel
theorem dX7_scoreUnits_11 : decode cX7_scoreUnits 11 = .ok (.iadd, 1) := by decide +kernel
theorem dX7_scoreUnits_12 : decode cX7_scoreUnits 12 = .ok (.invokestatic 34, 3) := by decide +kernel
theorem dX7_scoreUnits_15 : decode cX7_scoreUnits 15 = .ok (.putfield 15, 3) := by decide +kernel
theorem dX7_scoreUnits_18 : decode cX7_scoreUnits 18 = .ok (.aload_n 0, 1) := by decide +kernel
theorem dX7_scoreUnits_19 : decode cX7_scoreUnits 19 = .ok (.getfield 9, 3) := by decide +kernel
theorem dX7_scoreUnits_22 : decode cX7_scoreUnits 22 = .ok (.istore 4, 2) := by decide +kernel
theorem dX7_scoreUnits_24 : decode cX7_scoreUnits 24 = .ok (.iload 4, 2) := by decide +kernel
theorem dX7_scoreUnits_26 : decode cX7_scoreUnits 26 = .ok (.aload_n 0, 1) := by decide +kernel
theorem dX7_scoreUnits_27 : decode cX7_scoreUnits 27 = .ok (.getfield 15, 3) := by decide +kernel
theorem dX7_scoreUnits_30 : decode cX7_scoreUnits 30 = .ok (.if_icmp .gt 27, 3) := by decide +kernel
theorem dX7_scoreUnits_33 : decode cX7_scoreUnits 33 = .ok (.aload_n 0, 1) := by decide +kernel
theorem dX7_scoreUnits_34 : decode cX7_scoreUnits 34 = .ok (.getfield 18, 3) := by decide +kernel
theorem dX7_scoreUnits_37 : decode cX7_scoreUnits 37 = .ok (.iload 4, 2) := by decide +kernel
theorem dX7_scoreUnits_39 : decode cX7_scoreUnits 39 = .ok (.aload_n 0, 1) := by decide +kernel
theorem dX7_scoreUnits_40 : decode cX7_scoreUnits 40 = .ok (.getfield 9, 3) := by decide +kernel
theorem dX7_scoreUnits_43 : decode cX7_scoreUnits 43 = .ok (.isub, 1) := by decide +kernel
theorem dX7_scoreUnits_44 : decode cX7_scoreUnits 44 = .ok (.aload_n 1, 1) := by decide +kernel
theorem dX7_scoreUnits_45 : decode cX7_scoreUnits 45 = .ok (.iload 4, 2) := by decide +kernel
theorem dX7_scoreUnits_47 : decode cX7_scoreUnits 47 = .ok (.invokevirtual 40, 3) := by decide +kernel
theorem dX7_scoreUnits_50 : decode cX7_scoreUnits 50 = .ok (.iastore, 1) := by decide +kernel
theorem dX7_scoreUnits_51 : decode cX7_scoreUnits 51 = .ok (.iinc 4 1, 3) := by decide +kernel
theorem dX7_scoreUnits_54 : decode cX7_scoreUnits 54 = .ok (.goto (-30), 3) := by decide +kernel
theorem dX7_scoreUnits_57 : decode cX7_scoreUnits 57 = .ok (.return_, 1) := by decide +kernel
theorem dX7_bestUnit_0 : decode cX7_bestUnit 0 = .ok (.aload_n 0, 1) := by decide +kernel
theorem dX7_bestUnit_1 : decode cX7_bestUnit 1 = .ok (.getfield 9, 3) := by decide +kernel
theorem dX7_bestUnit_4 : decode cX7_bestUnit 4 = .ok (.istore_n 1, 1) := by decide +kernel
theorem dX7_bestUnit_5 : decode cX7_bestUnit 5 = .ok (.aload_n 0, 1) := by decide +kernel
theorem dX7_bestUnit_6 : decode cX7_bestUnit 6 = .ok (.getfield 9, 3) := by decide +kernel
theorem dX7_bestUnit_9 : decode cX7_bestUnit 9 = .ok (.iconst 1, 1) := by decide +kernel
theorem dX7_bestUnit_10 : decode cX7_bestUnit 10 = .ok (.iadd, 1) := by decide +kernel
theorem dX7_bestUnit_11 : decode cX7_bestUnit 11 = .ok (.istore_n 2, 1) := by decide +kernel
theorem dX7_bestUnit_12 : decode cX7_bestUnit 12 = .ok (.iload_n 2, 1) := by decide +kernel
theorem dX7_bestUnit_13 : decode cX7_bestUnit 13 = .ok (.aload_n 0, 1) := by decide +kernel
theorem dX7_bestUnit_14 : decode cX7_bestUnit 14 = .ok (.getfield 15, 3) := by decide +kernel
theorem dX7_bestUnit_17 : decode cX7_bestUnit 17 = .ok (.if_icmp .gt 20, 3) := by decide +kernel
theorem dX7_bestUnit_20 : decode cX7_bestUnit 20 = .ok (.aload_n 0, 1) := by decide +kernel
theorem dX7_bestUnit_21 : decode cX7_bestUnit 21 = .ok (.iload_n 2, 1) := by decide +kernel
theorem dX7_bestUnit_22 : decode cX7_bestUnit 22 = .ok (.iload_n 1, 1) := by decide +kernel
theorem dX7_bestUnit_23 : decode cX7_bestUnit 23 = .ok (.invokevirtual 46, 3) := by decide +kernel
theorem dX7_bestUnit_26 : decode cX7_bestUnit 26 = .ok (.ifCond .lt 5, 3) := by decide +kernel
theorem dX7_bestUnit_29 : decode cX7_bestUnit 29 = .ok (.iload_n 2, 1) := by decide +kernel
theorem dX7_bestUnit_30 : decode cX7_bestUnit 30 = .ok (.istore_n 1, 1) := by decide +kernel
theorem dX7_bestUnit_31 : decode cX7_bestUnit 31 = .ok (.iinc 2 1, 3) := by decide +kernel
theorem dX7_bestUnit_34 : decode cX7_bestUnit 34 = .ok (.goto (-22), 3) := by decide +kernel
theorem dX7_bestUnit_37 : decode cX7_bestUnit 37 = .ok (.iload_n 1, 1) := by decide +kernel
theorem dX7_bestUnit_38 : decode cX7_bestUnit 38 = .ok (.ireturn, 1) := by decide +kernel
theorem dX7_peakAt_0 : decode cX7_peakAt 0 = .ok (.aload_n 0, 1) := by decide +kernel
theorem dX7_peakAt_1 : decode cX7_peakAt 1 = .ok (.invokevirtual 49, 3) := by decide +kernel
theorem dX7_peakAt_4 : decode cX7_peakAt 4 = .ok (.iconst 0, 1) := by decide +kernel
theorem dX7_peakAt_5 : decode cX7_peakAt 5 = .ok (.istore_n 2, 1) := by decide +kernel
theorem dX7_peakAt_6 : decode cX7_peakAt 6 = .ok (.iload_n 2, 1) := by decide +kernel
theorem dX7_peakAt_7 : decode cX7_peakAt 7 = .ok (.aload_n 0, 1) := by decide +kernel
theorem dX7_peakAt_8 : decode cX7_peakAt 8 = .ok (.getfield 28, 3) := by decide +kernel
theorem dX7_peakAt_11 : decode cX7_peakAt 11 = .ok (.if_icmp .ge 39, 3) := by decide +kernel
theorem dX7_peakAt_14 : decode cX7_peakAt 14 = .ok (.iload_n 2, 1) := by decide +kernel
theorem dX7_peakAt_15 : decode cX7_peakAt 15 = .ok (.aload_n 0, 1) := by decide +kernel
theorem dX7_peakAt_16 : decode cX7_peakAt 16 = .ok (.getfield 25, 3) := by decide +kernel
theorem dX7_peakAt_19 : decode cX7_peakAt 19 = .ok (.arraylength, 1) := by decide +kernel
theorem dX7_peakAt_20 : decode cX7_peakAt 20 = .ok (.if_icmp .ge 30, 3) := by decide +kernel
theorem dX7_peakAt_23 : decode cX7_peakAt 23 = .ok (.aload_n 0, 1) := by decide +kernel
theorem dX7_peakAt_24 : decode cX7_peakAt 24 = .ok (.aload_n 0, 1) := by decide +kernel
theorem dX7_peakAt_25 : decode cX7_peakAt 25 = .ok (.getfield 25, 3) := by decide +kernel
theorem dX7_peakAt_28 : decode cX7_peakAt 28 = .ok (.iload_n 2, 1) := by decide +kernel
theorem dX7_peakAt_29 : decode cX7_peakAt 29 = .ok (.iaload, 1) := by decide +kernel
theorem dX7_peakAt_30 : decode cX7_peakAt 30 = .ok (.invokevirtual 52, 3) := by decide +kernel
theorem dX7_peakAt_33 : decode cX7_peakAt 33 = .ok (.iload_n 1, 1) := by decide +kernel
theorem dX7_peakAt_34 : decode cX7_peakAt 34 = .ok (.if_icmp .ne 10, 3) := by decide +kernel
theorem dX7_peakAt_37 : decode cX7_peakAt 37 = .ok (.aload_n 0, 1) := by decide +kernel
theorem dX7_peakAt_38 : decode cX7_peakAt 38 = .ok (.getfield 25, 3) := by decide +kernel
theorem dX7_peakAt_41 : decode cX7_peakAt 41 = .ok (.iload_n 2, 1) := by decide +kernel
theorem dX7_peakAt_42 : decode cX7_peakAt 42 = .ok (.iaload, 1) := by decide +kernel
theorem dX7_peakAt_43 : decode cX7_peakAt 43 = .ok (.ireturn, 1) := by decide +kernel
theorem dX7_peakAt_44 : decode cX7_peakAt 44 = .ok (.iinc 2 1, 3) := by decide +kernel
theorem dX7_peakAt_47 : decode cX7_peakAt 47 = .ok (.goto (-41), 3) := by decide +kernel
theorem dX7_peakAt_50 : decode cX7_peakAt 50 = .ok (.iconst (-1), 1) := by decide +kernel
theorem dX7_peakAt_51 : decode cX7_peakAt 51 = .ok (.ireturn, 1) := by decide +kernel
theorem dX7_placeOf_0 : decode cX7_placeOf 0 = .ok (.aload_n 0, 1) := by decide +kernel
theorem dX7_placeOf_1 : decode cX7_placeOf 1 = .ok (.iload_n 1, 1) := by decide +kernel
theorem dX7_placeOf_2 : decode cX7_placeOf 2 = .ok (.invokevirtual 55, 3) := by decide +kernel
theorem dX7_placeOf_5 : decode cX7_placeOf 5 = .ok (.ifCond .ne 7, 3) := by decide +kernel
theorem dX7_placeOf_8 : decode cX7_placeOf 8 = .ok (.sipush 9999, 3) := by decide +kernel
theorem dX7_placeOf_11 : decode cX7_placeOf 11 = .ok (.ireturn, 1) := by decide +kernel
theorem dX7_placeOf_12 : decode cX7_placeOf 12 = .ok (.aload_n 0, 1) := by decide +kernel
theorem dX7_placeOf_13 : decode cX7_placeOf 13 = .ok (.invokevirtual 49, 3) := by decide +kernel
theorem dX7_placeOf_16 : decode cX7_placeOf 16 = .ok (.aload_n 0, 1) := by decide +kernel
theorem dX7_placeOf_17 : decode cX7_placeOf 17 = .ok (.iload_n 1, 1) := by decide +kernel
theorem dX7_placeOf_18 : decode cX7_placeOf 18 = .ok (.invokevirtual 52, 3) := by decide +kernel
theorem dX7_placeOf_21 : decode cX7_placeOf 21 = .ok (.ireturn, 1) := by decide +kernel
theorem dX7_worthOf_0 : decode cX7_worthOf 0 = .ok (.iload_n 2, 1) := by decide +kernel
theorem dX7_worthOf_1 : decode cX7_worthOf 1 = .ok (.ifCond .lt 9, 3) := by decide +kernel
theorem dX7_worthOf_4 : decode cX7_worthOf 4 = .ok (.iload_n 2, 1) := by decide +kernel
theorem dX7_worthOf_5 : decode cX7_worthOf 5 = .ok (.bipush 32, 2) := by decide +kernel
theorem dX7_worthOf_7 : decode cX7_worthOf 7 = .ok (.if_icmp .lt 5, 3) := by decide +kernel
theorem dX7_worthOf_10 : decode cX7_worthOf 10 = .ok (.iconst 0, 1) := by decide +kernel
theorem dX7_worthOf_11 : decode cX7_worthOf 11 = .ok (.ireturn, 1) := by decide +kernel
theorem dX7_worthOf_12 : decode cX7_worthOf 12 = .ok (.aload_n 1, 1) := by decide +kernel
theorem dX7_worthOf_13 : decode cX7_worthOf 13 = .ok (.getfield 59, 3) := by decide +kernel
theorem dX7_worthOf_16 : decode cX7_worthOf 16 = .ok (.iload_n 2, 1) := by decide +kernel
theorem dX7_worthOf_17 : decode cX7_worthOf 17 = .ok (.iaload, 1) := by decide +kernel
theorem dX7_worthOf_18 : decode cX7_worthOf 18 = .ok (.istore_n 3, 1) := by decide +kernel
theorem dX7_worthOf_19 : decode cX7_worthOf 19 = .ok (.aload_n 1, 1) := by decide +kernel
theorem dX7_worthOf_20 : decode cX7_worthOf 20 = .ok (.getfield 62, 3) := by decide +kernel
theorem dX7_worthOf_23 : decode cX7_worthOf 23 = .ok (.iload_n 2, 1) := by decide +kernel
theorem dX7_worthOf_24 : decode cX7_worthOf 24 = .ok (.iaload, 1) := by decide +kernel
theorem dX7_worthOf_25 : decode cX7_worthOf 25 = .ok (.istore 4, 2) := by decide +kernel
theorem dX7_worthOf_27 : decode cX7_worthOf 27 = .ok (.iload_n 3, 1) := by decide +kernel
theorem dX7_worthOf_28 : decode cX7_worthOf 28 = .ok (.iload 4, 2) := by decide +kernel
theorem dX7_worthOf_30 : decode cX7_worthOf 30 = .ok (.if_icmp .ne 5, 3) := by decide +kernel
theorem dX7_worthOf_33 : decode cX7_worthOf 33 = .ok (.iconst 0, 1) := by decide +kernel
theorem dX7_worthOf_34 : decode cX7_worthOf 34 = .ok (.ireturn, 1) := by decide +kernel
theorem dX7_worthOf_35 : decode cX7_worthOf 35 = .ok (.aload_n 0, 1) := by decide +kernel
theorem dX7_worthOf_36 : decode cX7_worthOf 36 = .ok (.aload_n 1, 1) := by decide +kernel
theorem dX7_worthOf_37 : decode cX7_worthOf 37 = .ok (.iload_n 2, 1) := by decide +kernel
theorem dX7_worthOf_38 : decode cX7_worthOf 38 = .ok (.invokevirtual 65, 3) := by decide +kernel
theorem dX7_worthOf_41 : decode cX7_worthOf 41 = .ok (.aload_n 0, 1) := by decide +kernel
theorem dX7_worthOf_42 : decode cX7_worthOf 42 = .ok (.aload_n 1, 1) := by decide +kernel
theorem dX7_worthOf_43 : decode cX7_worthOf 43 = .ok (.iload_n 2, 1) := by decide +kernel
theorem dX7_worthOf_44 : decode cX7_worthOf 44 = .ok (.iload_n 3, 1) := by decide +kernel
theorem dX7_worthOf_45 : decode cX7_worthOf 45 = .ok (.invokevirtual 69, 3) := by decide +kernel
theorem dX7_worthOf_48 : decode cX7_worthOf 48 = .ok (.aload_n 0, 1) := by decide +kernel
theorem dX7_worthOf_49 : decode cX7_worthOf 49 = .ok (.aload_n 1, 1) := by decide +kernel
theorem dX7_worthOf_50 : decode cX7_worthOf 50 = .ok (.iload_n 2, 1) := by decide +kernel
theorem dX7_worthOf_51 : decode cX7_worthOf 51 = .ok (.iload 4, 2) := by decide +kernel
theorem dX7_worthOf_53 : decode cX7_worthOf 53 = .ok (.invokevirtual 69, 3) := by decide +kernel
theorem dX7_worthOf_56 : decode cX7_worthOf 56 = .ok (.isub, 1) := by decide +kernel
theorem dX7_worthOf_57 : decode cX7_worthOf 57 = .ok (.invokestatic 73, 3) := by decide +kernel
theorem dX7_worthOf_60 : decode cX7_worthOf 60 = .ok (.ireturn, 1) := by decide +kernel
theorem dX7_sumOfTwo_0 : decode cX7_sumOfTwo 0 = .ok (.lconst 0, 1) := by decide +kernel
theorem dX7_sumOfTwo_1 : decode cX7_sumOfTwo 1 = .ok (.lstore 4, 2) := by decide +kernel
theorem dX7_sumOfTwo_3 : decode cX7_sumOfTwo 3 = .ok (.iconst 0, 1) := by decide +kernel
theorem dX7_sumOfTwo_4 : decode cX7_sumOfTwo 4 = .ok (.istore 6, 2) := by decide +kernel
theorem dX7_sumOfTwo_6 : decode cX7_sumOfTwo 6 = .ok (.iload 6, 2) := by decide +kernel
theorem dX7_sumOfTwo_8 : decode cX7_sumOfTwo 8 = .ok (.aload_n 1, 1) := by decide +kernel
theorem dX7_sumOfTwo_9 : decode cX7_sumOfTwo 9 = .ok (.getfield 76, 3) := by decide +kernel
theorem dX7_sumOfTwo_12 : decode cX7_sumOfTwo 12 = .ok (.if_icmp .ge 36, 3) := by decide +kernel
theorem dX7_sumOfTwo_15 : decode cX7_sumOfTwo 15 = .ok (.lload 4, 2) := by decide +kernel
theorem dX7_sumOfTwo_17 : decode cX7_sumOfTwo 17 = .ok (.aload_n 1, 1) := by decide +kernel
theorem dX7_sumOfTwo_18 : decode cX7_sumOfTwo 18 = .ok (.iload 6, 2) := by decide +kernel
theorem dX7_sumOfTwo_20 : decode cX7_sumOfTwo 20 = .ok (.iload_n 2, 1) := by decide +kernel
theorem dX7_sumOfTwo_21 : decode cX7_sumOfTwo 21 = .ok (.invokevirtual 79, 3) := by decide +kernel
theorem dX7_sumOfTwo_24 : decode cX7_sumOfTwo 24 = .ok (.iload_n 3, 1) := by decide +kernel
theorem dX7_sumOfTwo_25 : decode cX7_sumOfTwo 25 = .ok (.imul, 1) := by decide +kernel
theorem dX7_sumOfTwo_26 : decode cX7_sumOfTwo 26 = .ok (.aload_n 1, 1) := by decide +kernel
theorem dX7_sumOfTwo_27 : decode cX7_sumOfTwo 27 = .ok (.iload 6, 2) := by decide +kernel
theorem dX7_sumOfTwo_29 : decode cX7_sumOfTwo 29 = .ok (.iload_n 3, 1) := by decide +kernel
theorem dX7_sumOfTwo_30 : decode cX7_sumOfTwo 30 = .ok (.invokevirtual 79, 3) := by decide +kernel
theorem dX7_sumOfTwo_33 : decode cX7_sumOfTwo 33 = .ok (.iload_n 2, 1) := by decide +kernel
theorem dX7_sumOfTwo_34 : decode cX7_sumOfTwo 34 = .ok (.imul, 1) := by decide +kernel
theorem dX7_sumOfTwo_35 : decode cX7_sumOfTwo 35 = .ok (.invokestatic 34, 3) := by decide +kernel
theorem dX7_sumOfTwo_38 : decode cX7_sumOfTwo 38 = .ok (.i2l, 1) := by decide +kernel
theorem dX7_sumOfTwo_39 : decode cX7_sumOfTwo 39 = .ok (.ladd, 1) := by decide +kernel
theorem dX7_sumOfTwo_40 : decode cX7_sumOfTwo 40 = .ok (.lstore 4, 2) := by decide +kernel
theorem dX7_sumOfTwo_42 : decode cX7_sumOfTwo 42 = .ok (.iinc 6 1, 3) := by decide +kernel
theorem dX7_sumOfTwo_45 : decode cX7_sumOfTwo 45 = .ok (.goto (-39), 3) := by decide +kernel
theorem dX7_sumOfTwo_48 : decode cX7_sumOfTwo 48 = .ok (.iload_n 2, 1) := by decide +kernel
theorem dX7_sumOfTwo_49 : decode cX7_sumOfTwo 49 = .ok (.i2l, 1) := by decide +kernel
theorem dX7_sumOfTwo_50 : decode cX7_sumOfTwo 50 = .ok (.iload_n 3, 1) := by decide +kernel
theorem dX7_sumOfTwo_51 : decode cX7_sumOfTwo 51 = .ok (.i2l, 1) := by decide +kernel
theorem dX7_sumOfTwo_52 : decode cX7_sumOfTwo 52 = .ok (.lmul, 1) := by decide +kernel
theorem dX7_sumOfTwo_53 : decode cX7_sumOfTwo 53 = .ok (.aload_n 1, 1) := by decide +kernel
theorem dX7_sumOfTwo_54 : decode cX7_sumOfTwo 54 = .ok (.getfield 76, 3) := by decide +kernel
theorem dX7_sumOfTwo_57 : decode cX7_sumOfTwo 57 = .ok (.i2l, 1) := by decide +kernel
theorem dX7_sumOfTwo_58 : decode cX7_sumOfTwo 58 = .ok (.lmul, 1) := by decide +kernel
theorem dX7_sumOfTwo_59 : decode cX7_sumOfTwo 59 = .ok (.ldc2_w 82, 3) := by decide +kernel
theorem dX7_sumOfTwo_62 : decode cX7_sumOfTwo 62 = .ok (.lload 4, 2) := by decide +kernel
theorem dX7_sumOfTwo_64 : decode cX7_sumOfTwo 64 = .ok (.lmul, 1) := by decide +kernel
theorem dX7_sumOfTwo_65 : decode cX7_sumOfTwo 65 = .ok (.lsub, 1) := by decide +kernel
theorem dX7_sumOfTwo_66 : decode cX7_sumOfTwo 66 = .ok (.lreturn, 1) := by decide +kernel
theorem dX7_bestPair_0 : decode cX7_bestPair 0 = .ok (.aload_n 0, 1) := by decide +kernel
theorem dX7_bestPair_1 : decode cX7_bestPair 1 = .ok (.aload_n 1, 1) := by decide +kernel
theorem dX7_bestPair_2 : decode cX7_bestPair 2 = .ok (.iload_n 2, 1) := by decide +kernel
theorem dX7_bestPair_3 : decode cX7_bestPair 3 = .ok (.iload_n 3, 1) := by decide +kernel
theorem dX7_bestPair_4 : decode cX7_bestPair 4 = .ok (.invokevirtual 84, 3) := by decide +kernel
theorem dX7_bestPair_7 : decode cX7_bestPair 7 = .ok (.iload_n 2, 1) := by decide +kernel
theorem dX7_bestPair_8 : decode cX7_bestPair 8 = .ok (.istore 4, 2) := by decide +kernel
theorem dX7_bestPair_10 : decode cX7_bestPair 10 = .ok (.iload_n 2, 1) := by decide +kernel
theorem dX7_bestPair_11 : decode cX7_bestPair 11 = .ok (.iconst 1, 1) := by decide +kernel
theorem dX7_bestPair_12 : decode cX7_bestPair 12 = .ok (.iadd, 1) := by decide +kernel
theorem dX7_bestPair_13 : decode cX7_bestPair 13 = .ok (.istore 5, 2) := by decide +kernel
theorem dX7_bestPair_15 : decode cX7_bestPair 15 = .ok (.aload_n 0, 1) := by decide +kernel
theorem dX7_bestPair_16 : decode cX7_bestPair 16 = .ok (.aload_n 1, 1) := by decide +kernel
theorem dX7_bestPair_17 : decode cX7_bestPair 17 = .ok (.getfield 76, 3) := by decide +kernel
theorem dX7_bestPair_20 : decode cX7_bestPair 20 = .ok (.iload_n 2, 1) := by decide +kernel
theorem dX7_bestPair_21 : decode cX7_bestPair 21 = .ok (.iload 4, 2) := by decide +kernel
theorem dX7_bestPair_23 : decode cX7_bestPair 23 = .ok (.iload 5, 2) := by decide +kernel
theorem dX7_bestPair_25 : decode cX7_bestPair 25 = .ok (.invokevirtual 88, 3) := by decide +kernel
theorem dX7_bestPair_28 : decode cX7_bestPair 28 = .ok (.lstore 6, 2) := by decide +kernel
theorem dX7_bestPair_30 : decode cX7_bestPair 30 = .ok (.iload_n 2, 1) := by decide +kernel
theorem dX7_bestPair_31 : decode cX7_bestPair 31 = .ok (.iconst 2, 1) := by decide +kernel
theorem dX7_bestPair_32 : decode cX7_bestPair 32 = .ok (.iadd, 1) := by decide +kernel
theorem dX7_bestPair_33 : decode cX7_bestPair 33 = .ok (.istore 8, 2) := by decide +kernel
theorem dX7_bestPair_35 : decode cX7_bestPair 35 = .ok (.iload 8, 2) := by decide +kernel
theorem dX7_bestPair_37 : decode cX7_bestPair 37 = .ok (.iload_n 3, 1) := by decide +kernel
theorem dX7_bestPair_38 : decode cX7_bestPair 38 = .ok (.if_icmp .gt 76, 3) := by decide +kernel
theorem dX7_bestPair_41 : decode cX7_bestPair 41 = .ok (.iload_n 2, 1) := by decide +kernel
theorem dX7_bestPair_42 : decode cX7_bestPair 42 = .ok (.istore 9, 2) := by decide +kernel
theorem dX7_bestPair_44 : decode cX7_bestPair 44 = .ok (.iload 9, 2) := by decide +kernel
theorem dX7_bestPair_46 : decode cX7_bestPair 46 = .ok (.iload 8, 2) := by decide +kernel
theorem dX7_bestPair_48 : decode cX7_bestPair 48 = .ok (.if_icmp .ge 60, 3) := by decide +kernel
theorem dX7_bestPair_51 : decode cX7_bestPair 51 = .ok (.aload_n 0, 1) := by decide +kernel
end
section
theorem dX7_bestPair_52 : decode cX7_bestPair 52 = .ok (.aload_n 1, 1) := by decide +kernel
theorem dX7_bestPair_53 : decode cX7_bestPair 53 = .ok (.getfield 76, 3) := by decide +kernel
theorem dX7_bestPair_56 : decode cX7_bestPair 56 = .ok (.iload_n 2, 1) := by decide +kernel
theorem dX7_bestPair_57 : decode cX7_bestPair 57 = .ok (.iload 9, 2) := by decide +kernel
theorem dX7_bestPair_59 : decode cX7_bestPair 59 = .ok (.iload 8, 2) := by decide +kernel
theorem dX7_bestPair_61 : decode cX7_bestPair 61 = .ok (.invokevirtual 88, 3) := by decide +kernel
theorem dX7_bestPair_64 : decode cX7_bestPair 64 = .ok (.lstore 10, 2) := by decide +kernel
theorem dX7_bestPair_66 : decode cX7_bestPair 66 = .ok (.lload 10, 2) := by decide +kernel
theorem dX7_bestPair_68 : decode cX7_bestPair 68 = .ok (.iload 4, 2) := by decide +kernel
theorem dX7_bestPair_70 : decode cX7_bestPair 70 = .ok (.i2l, 1) := by decide +kernel
theorem dX7_bestPair_71 : decode cX7_bestPair 71 = .ok (.lmul, 1) := by decide +kernel
theorem dX7_bestPair_72 : decode cX7_bestPair 72 = .ok (.iload 5, 2) := by decide +kernel
theorem dX7_bestPair_74 : decode cX7_bestPair 74 = .ok (.i2l, 1) := by decide +kernel
theorem dX7_bestPair_75 : decode cX7_bestPair 75 = .ok (.lmul, 1) := by decide +kernel
theorem dX7_bestPair_76 : decode cX7_bestPair 76 = .ok (.lload 6, 2) := by decide +kernel
theorem dX7_bestPair_78 : decode cX7_bestPair 78 = .ok (.iload 9, 2) := by decide +kernel
theorem dX7_bestPair_80 : decode cX7_bestPair 80 = .ok (.i2l, 1) := by decide +kernel
theorem dX7_bestPair_81 : decode cX7_bestPair 81 = .ok (.lmul, 1) := by decide +kernel
theorem dX7_bestPair_82 : decode cX7_bestPair 82 = .ok (.iload 8, 2) := by decide +kernel
theorem dX7_bestPair_84 : decode cX7_bestPair 84 = .ok (.i2l, 1) := by decide +kernel
theorem dX7_bestPair_85 : decode cX7_bestPair 85 = .ok (.lmul, 1) := by decide +kernel
theorem dX7_bestPair_86 : decode cX7_bestPair 86 = .ok (.lcmp, 1) := by decide +kernel
theorem dX7_bestPair_87 : decode cX7_bestPair 87 = .ok (.ifCond .lt 15, 3) := by decide +kernel
theorem dX7_bestPair_90 : decode cX7_bestPair 90 = .ok (.lload 10, 2) := by decide +kernel
theorem dX7_bestPair_92 : decode cX7_bestPair 92 = .ok (.lstore 6, 2) := by decide +kernel
theorem dX7_bestPair_94 : decode cX7_bestPair 94 = .ok (.iload 9, 2) := by decide +kernel
theorem dX7_bestPair_96 : decode cX7_bestPair 96 = .ok (.istore 4, 2) := by decide +kernel
theorem dX7_bestPair_98 : decode cX7_bestPair 98 = .ok (.iload 8, 2) := by decide +kernel
theorem dX7_bestPair_100 : decode cX7_bestPair 100 = .ok (.istore 5, 2) := by decide +kernel
theorem dX7_bestPair_102 : decode cX7_bestPair 102 = .ok (.iinc 9 1, 3) := by decide +kernel
theorem dX7_bestPair_105 : decode cX7_bestPair 105 = .ok (.goto (-61), 3) := by decide +kernel
theorem dX7_bestPair_108 : decode cX7_bestPair 108 = .ok (.iinc 8 1, 3) := by decide +kernel
theorem dX7_bestPair_111 : decode cX7_bestPair 111 = .ok (.goto (-76), 3) := by decide +kernel
theorem dX7_bestPair_114 : decode cX7_bestPair 114 = .ok (.sipush 10000, 3) := by decide +kernel
theorem dX7_bestPair_117 : decode cX7_bestPair 117 = .ok (.iload 5, 2) := by decide +kernel
theorem dX7_bestPair_119 : decode cX7_bestPair 119 = .ok (.imul, 1) := by decide +kernel
theorem dX7_bestPair_120 : decode cX7_bestPair 120 = .ok (.iload 4, 2) := by decide +kernel
theorem dX7_bestPair_122 : decode cX7_bestPair 122 = .ok (.iadd, 1) := by decide +kernel
theorem dX7_bestPair_123 : decode cX7_bestPair 123 = .ok (.ireturn, 1) := by decide +kernel
theorem dX7_inReach_0 : decode cX7_inReach 0 = .ok (.iload_n 1, 1) := by decide +kernel
theorem dX7_inReach_1 : decode cX7_inReach 1 = .ok (.aload_n 0, 1) := by decide +kernel
theorem dX7_inReach_2 : decode cX7_inReach 2 = .ok (.getfield 9, 3) := by decide +kernel
theorem dX7_inReach_5 : decode cX7_inReach 5 = .ok (.if_icmp .lt 27, 3) := by decide +kernel
theorem dX7_inReach_8 : decode cX7_inReach 8 = .ok (.iload_n 1, 1) := by decide +kernel
theorem dX7_inReach_9 : decode cX7_inReach 9 = .ok (.aload_n 0, 1) := by decide +kernel
theorem dX7_inReach_10 : decode cX7_inReach 10 = .ok (.getfield 15, 3) := by decide +kernel
theorem dX7_inReach_13 : decode cX7_inReach 13 = .ok (.if_icmp .gt 19, 3) := by decide +kernel
theorem dX7_inReach_16 : decode cX7_inReach 16 = .ok (.iload_n 1, 1) := by decide +kernel
theorem dX7_inReach_17 : decode cX7_inReach 17 = .ok (.aload_n 0, 1) := by decide +kernel
theorem dX7_inReach_18 : decode cX7_inReach 18 = .ok (.getfield 9, 3) := by decide +kernel
theorem dX7_inReach_21 : decode cX7_inReach 21 = .ok (.isub, 1) := by decide +kernel
theorem dX7_inReach_22 : decode cX7_inReach 22 = .ok (.sipush 300, 3) := by decide +kernel
theorem dX7_inReach_25 : decode cX7_inReach 25 = .ok (.if_icmp .gt 7, 3) := by decide +kernel
theorem dX7_inReach_28 : decode cX7_inReach 28 = .ok (.iconst 1, 1) := by decide +kernel
theorem dX7_inReach_29 : decode cX7_inReach 29 = .ok (.goto 4, 3) := by decide +kernel
theorem dX7_inReach_32 : decode cX7_inReach 32 = .ok (.iconst 0, 1) := by decide +kernel
theorem dX7_inReach_33 : decode cX7_inReach 33 = .ok (.ireturn, 1) := by decide +kernel
theorem dX7_compare_0 : decode cX7_compare 0 = .ok (.aload_n 0, 1) := by decide +kernel
theorem dX7_compare_1 : decode cX7_compare 1 = .ok (.iload_n 1, 1) := by decide +kernel
theorem dX7_compare_2 : decode cX7_compare 2 = .ok (.invokevirtual 92, 3) := by decide +kernel
theorem dX7_compare_5 : decode cX7_compare 5 = .ok (.ifCond .eq 11, 3) := by decide +kernel
theorem dX7_compare_8 : decode cX7_compare 8 = .ok (.aload_n 0, 1) := by decide +kernel
theorem dX7_compare_9 : decode cX7_compare 9 = .ok (.iload_n 2, 1) := by decide +kernel
theorem dX7_compare_10 : decode cX7_compare 10 = .ok (.invokevirtual 92, 3) := by decide +kernel
theorem dX7_compare_13 : decode cX7_compare 13 = .ok (.ifCond .ne 5, 3) := by decide +kernel
theorem dX7_compare_16 : decode cX7_compare 16 = .ok (.iconst 0, 1) := by decide +kernel
theorem dX7_compare_17 : decode cX7_compare 17 = .ok (.ireturn, 1) := by decide +kernel
theorem dX7_compare_18 : decode cX7_compare 18 = .ok (.aload_n 0, 1) := by decide +kernel
theorem dX7_compare_19 : decode cX7_compare 19 = .ok (.getfield 18, 3) := by decide +kernel
theorem dX7_compare_22 : decode cX7_compare 22 = .ok (.iload_n 1, 1) := by decide +kernel
theorem dX7_compare_23 : decode cX7_compare 23 = .ok (.aload_n 0, 1) := by decide +kernel
theorem dX7_compare_24 : decode cX7_compare 24 = .ok (.getfield 9, 3) := by decide +kernel
theorem dX7_compare_27 : decode cX7_compare 27 = .ok (.isub, 1) := by decide +kernel
theorem dX7_compare_28 : decode cX7_compare 28 = .ok (.iaload, 1) := by decide +kernel
theorem dX7_compare_29 : decode cX7_compare 29 = .ok (.i2l, 1) := by decide +kernel
theorem dX7_compare_30 : decode cX7_compare 30 = .ok (.iload_n 2, 1) := by decide +kernel
theorem dX7_compare_31 : decode cX7_compare 31 = .ok (.i2l, 1) := by decide +kernel
theorem dX7_compare_32 : decode cX7_compare 32 = .ok (.lmul, 1) := by decide +kernel
theorem dX7_compare_33 : decode cX7_compare 33 = .ok (.aload_n 0, 1) := by decide +kernel
theorem dX7_compare_34 : decode cX7_compare 34 = .ok (.getfield 18, 3) := by decide +kernel
theorem dX7_compare_37 : decode cX7_compare 37 = .ok (.iload_n 2, 1) := by decide +kernel
theorem dX7_compare_38 : decode cX7_compare 38 = .ok (.aload_n 0, 1) := by decide +kernel
theorem dX7_compare_39 : decode cX7_compare 39 = .ok (.getfield 9, 3) := by decide +kernel
theorem dX7_compare_42 : decode cX7_compare 42 = .ok (.isub, 1) := by decide +kernel
theorem dX7_compare_43 : decode cX7_compare 43 = .ok (.iaload, 1) := by decide +kernel
theorem dX7_compare_44 : decode cX7_compare 44 = .ok (.i2l, 1) := by decide +kernel
theorem dX7_compare_45 : decode cX7_compare 45 = .ok (.iload_n 1, 1) := by decide +kernel
theorem dX7_compare_46 : decode cX7_compare 46 = .ok (.i2l, 1) := by decide +kernel
theorem dX7_compare_47 : decode cX7_compare 47 = .ok (.lmul, 1) := by decide +kernel
theorem dX7_compare_48 : decode cX7_compare 48 = .ok (.invokestatic 95, 3) := by decide +kernel
theorem dX7_compare_51 : decode cX7_compare 51 = .ok (.ireturn, 1) := by decide +kernel
theorem dX7_isBetter_0 : decode cX7_isBetter 0 = .ok (.aload_n 0, 1) := by decide +kernel
theorem dX7_isBetter_1 : decode cX7_isBetter 1 = .ok (.iload_n 1, 1) := by decide +kernel
theorem dX7_isBetter_2 : decode cX7_isBetter 2 = .ok (.iload_n 2, 1) := by decide +kernel
theorem dX7_isBetter_3 : decode cX7_isBetter 3 = .ok (.invokevirtual 46, 3) := by decide +kernel
theorem dX7_isBetter_6 : decode cX7_isBetter 6 = .ok (.istore_n 3, 1) := by decide +kernel
theorem dX7_isBetter_7 : decode cX7_isBetter 7 = .ok (.iload_n 3, 1) := by decide +kernel
theorem dX7_isBetter_8 : decode cX7_isBetter 8 = .ok (.ifCond .gt 12, 3) := by decide +kernel
theorem dX7_isBetter_11 : decode cX7_isBetter 11 = .ok (.iload_n 3, 1) := by decide +kernel
theorem dX7_isBetter_12 : decode cX7_isBetter 12 = .ok (.ifCond .ne 12, 3) := by decide +kernel
theorem dX7_isBetter_15 : decode cX7_isBetter 15 = .ok (.iload_n 1, 1) := by decide +kernel
theorem dX7_isBetter_16 : decode cX7_isBetter 16 = .ok (.iload_n 2, 1) := by decide +kernel
theorem dX7_isBetter_17 : decode cX7_isBetter 17 = .ok (.if_icmp .le 7, 3) := by decide +kernel
theorem dX7_isBetter_20 : decode cX7_isBetter 20 = .ok (.iconst 1, 1) := by decide +kernel
theorem dX7_isBetter_21 : decode cX7_isBetter 21 = .ok (.goto 4, 3) := by decide +kernel
theorem dX7_isBetter_24 : decode cX7_isBetter 24 = .ok (.iconst 0, 1) := by decide +kernel
theorem dX7_isBetter_25 : decode cX7_isBetter 25 = .ok (.ireturn, 1) := by decide +kernel
theorem dX7_isPeak_0 : decode cX7_isPeak 0 = .ok (.iload_n 1, 1) := by decide +kernel
theorem dX7_isPeak_1 : decode cX7_isPeak 1 = .ok (.aload_n 0, 1) := by decide +kernel
theorem dX7_isPeak_2 : decode cX7_isPeak 2 = .ok (.getfield 9, 3) := by decide +kernel
theorem dX7_isPeak_5 : decode cX7_isPeak 5 = .ok (.if_icmp .eq 14, 3) := by decide +kernel
theorem dX7_isPeak_8 : decode cX7_isPeak 8 = .ok (.aload_n 0, 1) := by decide +kernel
theorem dX7_isPeak_9 : decode cX7_isPeak 9 = .ok (.iload_n 1, 1) := by decide +kernel
theorem dX7_isPeak_10 : decode cX7_isPeak 10 = .ok (.iload_n 1, 1) := by decide +kernel
theorem dX7_isPeak_11 : decode cX7_isPeak 11 = .ok (.iconst 1, 1) := by decide +kernel
theorem dX7_isPeak_12 : decode cX7_isPeak 12 = .ok (.isub, 1) := by decide +kernel
theorem dX7_isPeak_13 : decode cX7_isPeak 13 = .ok (.invokevirtual 46, 3) := by decide +kernel
theorem dX7_isPeak_16 : decode cX7_isPeak 16 = .ok (.ifCond .le 26, 3) := by decide +kernel
theorem dX7_isPeak_19 : decode cX7_isPeak 19 = .ok (.iload_n 1, 1) := by decide +kernel
theorem dX7_isPeak_20 : decode cX7_isPeak 20 = .ok (.aload_n 0, 1) := by decide +kernel
theorem dX7_isPeak_21 : decode cX7_isPeak 21 = .ok (.getfield 15, 3) := by decide +kernel
theorem dX7_isPeak_24 : decode cX7_isPeak 24 = .ok (.if_icmp .eq 14, 3) := by decide +kernel
theorem dX7_isPeak_27 : decode cX7_isPeak 27 = .ok (.aload_n 0, 1) := by decide +kernel
theorem dX7_isPeak_28 : decode cX7_isPeak 28 = .ok (.iload_n 1, 1) := by decide +kernel
theorem dX7_isPeak_29 : decode cX7_isPeak 29 = .ok (.iload_n 1, 1) := by decide +kernel
theorem dX7_isPeak_30 : decode cX7_isPeak 30 = .ok (.iconst 1, 1) := by decide +kernel
theorem dX7_isPeak_31 : decode cX7_isPeak 31 = .ok (.iadd, 1) := by decide +kernel
theorem dX7_isPeak_32 : decode cX7_isPeak 32 = .ok (.invokevirtual 46, 3) := by decide +kernel
theorem dX7_isPeak_35 : decode cX7_isPeak 35 = .ok (.ifCond .lt 7, 3) := by decide +kernel
theorem dX7_isPeak_38 : decode cX7_isPeak 38 = .ok (.iconst 1, 1) := by decide +kernel
theorem dX7_isPeak_39 : decode cX7_isPeak 39 = .ok (.goto 4, 3) := by decide +kernel
theorem dX7_isPeak_42 : decode cX7_isPeak 42 = .ok (.iconst 0, 1) := by decide +kernel
theorem dX7_isPeak_43 : decode cX7_isPeak 43 = .ok (.ireturn, 1) := by decide +kernel
theorem dX7_listPeaks_0 : decode cX7_listPeaks 0 = .ok (.aload_n 0, 1) := by decide +kernel
theorem dX7_listPeaks_1 : decode cX7_listPeaks 1 = .ok (.iconst 0, 1) := by decide +kernel
theorem dX7_listPeaks_2 : decode cX7_listPeaks 2 = .ok (.putfield 28, 3) := by decide +kernel
theorem dX7_listPeaks_5 : decode cX7_listPeaks 5 = .ok (.aload_n 0, 1) := by decide +kernel
theorem dX7_listPeaks_6 : decode cX7_listPeaks 6 = .ok (.getfield 9, 3) := by decide +kernel
theorem dX7_listPeaks_9 : decode cX7_listPeaks 9 = .ok (.istore_n 1, 1) := by decide +kernel
theorem dX7_listPeaks_10 : decode cX7_listPeaks 10 = .ok (.iload_n 1, 1) := by decide +kernel
theorem dX7_listPeaks_11 : decode cX7_listPeaks 11 = .ok (.aload_n 0, 1) := by decide +kernel
theorem dX7_listPeaks_12 : decode cX7_listPeaks 12 = .ok (.getfield 15, 3) := by decide +kernel
theorem dX7_listPeaks_15 : decode cX7_listPeaks 15 = .ok (.if_icmp .gt 49, 3) := by decide +kernel
theorem dX7_listPeaks_18 : decode cX7_listPeaks 18 = .ok (.aload_n 0, 1) := by decide +kernel
theorem dX7_listPeaks_19 : decode cX7_listPeaks 19 = .ok (.iload_n 1, 1) := by decide +kernel
theorem dX7_listPeaks_20 : decode cX7_listPeaks 20 = .ok (.invokevirtual 55, 3) := by decide +kernel
theorem dX7_listPeaks_23 : decode cX7_listPeaks 23 = .ok (.ifCond .eq 35, 3) := by decide +kernel
theorem dX7_listPeaks_26 : decode cX7_listPeaks 26 = .ok (.aload_n 0, 1) := by decide +kernel
theorem dX7_listPeaks_27 : decode cX7_listPeaks 27 = .ok (.getfield 28, 3) := by decide +kernel
theorem dX7_listPeaks_30 : decode cX7_listPeaks 30 = .ok (.aload_n 0, 1) := by decide +kernel
theorem dX7_listPeaks_31 : decode cX7_listPeaks 31 = .ok (.getfield 25, 3) := by decide +kernel
theorem dX7_listPeaks_34 : decode cX7_listPeaks 34 = .ok (.arraylength, 1) := by decide +kernel
theorem dX7_listPeaks_35 : decode cX7_listPeaks 35 = .ok (.if_icmp .ge 23, 3) := by decide +kernel
theorem dX7_listPeaks_38 : decode cX7_listPeaks 38 = .ok (.aload_n 0, 1) := by decide +kernel
theorem dX7_listPeaks_39 : decode cX7_listPeaks 39 = .ok (.getfield 25, 3) := by decide +kernel
theorem dX7_listPeaks_42 : decode cX7_listPeaks 42 = .ok (.aload_n 0, 1) := by decide +kernel
theorem dX7_listPeaks_43 : decode cX7_listPeaks 43 = .ok (.getfield 28, 3) := by decide +kernel
theorem dX7_listPeaks_46 : decode cX7_listPeaks 46 = .ok (.iload_n 1, 1) := by decide +kernel
theorem dX7_listPeaks_47 : decode cX7_listPeaks 47 = .ok (.iastore, 1) := by decide +kernel
theorem dX7_listPeaks_48 : decode cX7_listPeaks 48 = .ok (.aload_n 0, 1) := by decide +kernel
theorem dX7_listPeaks_49 : decode cX7_listPeaks 49 = .ok (.dup, 1) := by decide +kernel
theorem dX7_listPeaks_50 : decode cX7_listPeaks 50 = .ok (.getfield 28, 3) := by decide +kernel
theorem dX7_listPeaks_53 : decode cX7_listPeaks 53 = .ok (.iconst 1, 1) := by decide +kernel
theorem dX7_listPeaks_54 : decode cX7_listPeaks 54 = .ok (.iadd, 1) := by decide +kernel
theorem dX7_listPeaks_55 : decode cX7_listPeaks 55 = .ok (.putfield 28, 3) := by decide +kernel
theorem dX7_listPeaks_58 : decode cX7_listPeaks 58 = .ok (.iinc 1 1, 3) := by decide +kernel
theorem dX7_listPeaks_61 : decode cX7_listPeaks 61 = .ok (.goto (-51), 3) := by decide +kernel
theorem dX7_listPeaks_64 : decode cX7_listPeaks 64 = .ok (.return_, 1) := by decide +kernel
theorem dX7_betterPeaks_0 : decode cX7_betterPeaks 0 = .ok (.iconst 0, 1) := by decide +kernel
theorem dX7_betterPeaks_1 : decode cX7_betterPeaks 1 = .ok (.istore_n 2, 1) := by decide +kernel
theorem dX7_betterPeaks_2 : decode cX7_betterPeaks 2 = .ok (.iconst 0, 1) := by decide +kernel
theorem dX7_betterPeaks_3 : decode cX7_betterPeaks 3 = .ok (.istore_n 3, 1) := by decide +kernel
theorem dX7_betterPeaks_4 : decode cX7_betterPeaks 4 = .ok (.iload_n 3, 1) := by decide +kernel
theorem dX7_betterPeaks_5 : decode cX7_betterPeaks 5 = .ok (.aload_n 0, 1) := by decide +kernel
theorem dX7_betterPeaks_6 : decode cX7_betterPeaks 6 = .ok (.getfield 28, 3) := by decide +kernel
theorem dX7_betterPeaks_9 : decode cX7_betterPeaks 9 = .ok (.if_icmp .ge 40, 3) := by decide +kernel
theorem dX7_betterPeaks_12 : decode cX7_betterPeaks 12 = .ok (.iload_n 3, 1) := by decide +kernel
theorem dX7_betterPeaks_13 : decode cX7_betterPeaks 13 = .ok (.aload_n 0, 1) := by decide +kernel
theorem dX7_betterPeaks_14 : decode cX7_betterPeaks 14 = .ok (.getfield 25, 3) := by decide +kernel
theorem dX7_betterPeaks_17 : decode cX7_betterPeaks 17 = .ok (.arraylength, 1) := by decide +kernel
theorem dX7_betterPeaks_18 : decode cX7_betterPeaks 18 = .ok (.if_icmp .ge 31, 3) := by decide +kernel
theorem dX7_betterPeaks_21 : decode cX7_betterPeaks 21 = .ok (.iload_n 2, 1) := by decide +kernel
theorem dX7_betterPeaks_22 : decode cX7_betterPeaks 22 = .ok (.aload_n 0, 1) := by decide +kernel
theorem dX7_betterPeaks_23 : decode cX7_betterPeaks 23 = .ok (.aload_n 0, 1) := by decide +kernel
theorem dX7_betterPeaks_24 : decode cX7_betterPeaks 24 = .ok (.getfield 25, 3) := by decide +kernel
theorem dX7_betterPeaks_27 : decode cX7_betterPeaks 27 = .ok (.iload_n 3, 1) := by decide +kernel
theorem dX7_betterPeaks_28 : decode cX7_betterPeaks 28 = .ok (.iaload, 1) := by decide +kernel
theorem dX7_betterPeaks_29 : decode cX7_betterPeaks 29 = .ok (.iload_n 1, 1) := by decide +kernel
theorem dX7_betterPeaks_30 : decode cX7_betterPeaks 30 = .ok (.invokevirtual 100, 3) := by decide +kernel
theorem dX7_betterPeaks_33 : decode cX7_betterPeaks 33 = .ok (.ifCond .eq 7, 3) := by decide +kernel
theorem dX7_betterPeaks_36 : decode cX7_betterPeaks 36 = .ok (.iconst 1, 1) := by decide +kernel
theorem dX7_betterPeaks_37 : decode cX7_betterPeaks 37 = .ok (.goto 4, 3) := by decide +kernel
theorem dX7_betterPeaks_40 : decode cX7_betterPeaks 40 = .ok (.iconst 0, 1) := by decide +kernel
theorem dX7_betterPeaks_41 : decode cX7_betterPeaks 41 = .ok (.iadd, 1) := by decide +kernel
theorem dX7_betterPeaks_42 : decode cX7_betterPeaks 42 = .ok (.istore_n 2, 1) := by decide +kernel
theorem dX7_betterPeaks_43 : decode cX7_betterPeaks 43 = .ok (.iinc 3 1, 3) := by decide +kernel
theorem dX7_betterPeaks_46 : decode cX7_betterPeaks 46 = .ok (.goto (-42), 3) := by decide +kernel
theorem dX7_betterPeaks_49 : decode cX7_betterPeaks 49 = .ok (.iload_n 2, 1) := by decide +kernel
theorem dX7_betterPeaks_50 : decode cX7_betterPeaks 50 = .ok (.ireturn, 1) := by decide +kernel
theorem dX7_setAside_0 : decode cX7_setAside 0 = .ok (.aload_n 0, 1) := by decide +kernel
theorem dX7_setAside_1 : decode cX7_setAside 1 = .ok (.getfield 9, 3) := by decide +kernel
theorem dX7_setAside_4 : decode cX7_setAside 4 = .ok (.istore_n 3, 1) := by decide +kernel
theorem dX7_setAside_5 : decode cX7_setAside 5 = .ok (.iload_n 3, 1) := by decide +kernel
theorem dX7_setAside_6 : decode cX7_setAside 6 = .ok (.aload_n 0, 1) := by decide +kernel
theorem dX7_setAside_7 : decode cX7_setAside 7 = .ok (.getfield 15, 3) := by decide +kernel
theorem dX7_setAside_10 : decode cX7_setAside 10 = .ok (.if_icmp .gt 40, 3) := by decide +kernel
theorem dX7_setAside_13 : decode cX7_setAside 13 = .ok (.aload_n 0, 1) := by decide +kernel
theorem dX7_setAside_14 : decode cX7_setAside 14 = .ok (.getfield 22, 3) := by decide +kernel
theorem dX7_setAside_17 : decode cX7_setAside 17 = .ok (.iload_n 3, 1) := by decide +kernel
theorem dX7_setAside_18 : decode cX7_setAside 18 = .ok (.aload_n 0, 1) := by decide +kernel
theorem dX7_setAside_19 : decode cX7_setAside 19 = .ok (.getfield 9, 3) := by decide +kernel
theorem dX7_setAside_22 : decode cX7_setAside 22 = .ok (.isub, 1) := by decide +kernel
theorem dX7_setAside_23 : decode cX7_setAside 23 = .ok (.aload_n 0, 1) := by decide +kernel
theorem dX7_setAside_24 : decode cX7_setAside 24 = .ok (.getfield 18, 3) := by decide +kernel
theorem dX7_setAside_27 : decode cX7_setAside 27 = .ok (.iload_n 3, 1) := by decide +kernel
theorem dX7_setAside_28 : decode cX7_setAside 28 = .ok (.aload_n 0, 1) := by decide +kernel
theorem dX7_setAside_29 : decode cX7_setAside 29 = .ok (.getfield 9, 3) := by decide +kernel
theorem dX7_setAside_32 : decode cX7_setAside 32 = .ok (.isub, 1) := by decide +kernel
theorem dX7_setAside_33 : decode cX7_setAside 33 = .ok (.iaload, 1) := by decide +kernel
theorem dX7_setAside_34 : decode cX7_setAside 34 = .ok (.iconst 4, 1) := by decide +kernel
theorem dX7_setAside_35 : decode cX7_setAside 35 = .ok (.aload_n 1, 1) := by decide +kernel
theorem dX7_setAside_36 : decode cX7_setAside 36 = .ok (.iload_n 2, 1) := by decide +kernel
theorem dX7_setAside_37 : decode cX7_setAside 37 = .ok (.iload_n 3, 1) := by decide +kernel
theorem dX7_setAside_38 : decode cX7_setAside 38 = .ok (.invokevirtual 79, 3) := by decide +kernel
theorem dX7_setAside_41 : decode cX7_setAside 41 = .ok (.imul, 1) := by decide +kernel
theorem dX7_setAside_42 : decode cX7_setAside 42 = .ok (.iadd, 1) := by decide +kernel
theorem dX7_setAside_43 : decode cX7_setAside 43 = .ok (.iastore, 1) := by decide +kernel
theorem dX7_setAside_44 : decode cX7_setAside 44 = .ok (.iinc 3 1, 3) := by decide +kernel
theorem dX7_setAside_47 : decode cX7_setAside 47 = .ok (.goto (-42), 3) := by decide +kernel
theorem dX7_setAside_50 : decode cX7_setAside 50 = .ok (.return_, 1) := by decide +kernel
theorem dX7_bestIf_0 : decode cX7_bestIf 0 = .ok (.aload_n 0, 1) := by decide +kernel
theorem dX7_bestIf_1 : decode cX7_bestIf 1 = .ok (.getfield 9, 3) := by decide +kernel
theorem dX7_bestIf_4 : decode cX7_bestIf 4 = .ok (.istore 4, 2) := by decide +kernel
theorem dX7_bestIf_6 : decode cX7_bestIf 6 = .ok (.lconst 0, 1) := by decide +kernel
theorem dX7_bestIf_7 : decode cX7_bestIf 7 = .ok (.lstore 5, 2) := by decide +kernel
theorem dX7_bestIf_9 : decode cX7_bestIf 9 = .ok (.aload_n 0, 1) := by decide +kernel
theorem dX7_bestIf_10 : decode cX7_bestIf 10 = .ok (.getfield 9, 3) := by decide +kernel
theorem dX7_bestIf_13 : decode cX7_bestIf 13 = .ok (.istore 7, 2) := by decide +kernel
theorem dX7_bestIf_15 : decode cX7_bestIf 15 = .ok (.iload 7, 2) := by decide +kernel
theorem dX7_bestIf_17 : decode cX7_bestIf 17 = .ok (.aload_n 0, 1) := by decide +kernel
theorem dX7_bestIf_18 : decode cX7_bestIf 18 = .ok (.getfield 15, 3) := by decide +kernel
theorem dX7_bestIf_21 : decode cX7_bestIf 21 = .ok (.if_icmp .gt 68, 3) := by decide +kernel
theorem dX7_bestIf_24 : decode cX7_bestIf 24 = .ok (.aload_n 0, 1) := by decide +kernel
theorem dX7_bestIf_25 : decode cX7_bestIf 25 = .ok (.getfield 22, 3) := by decide +kernel
theorem dX7_bestIf_28 : decode cX7_bestIf 28 = .ok (.iload 7, 2) := by decide +kernel
theorem dX7_bestIf_30 : decode cX7_bestIf 30 = .ok (.aload_n 0, 1) := by decide +kernel
theorem dX7_bestIf_31 : decode cX7_bestIf 31 = .ok (.getfield 9, 3) := by decide +kernel
theorem dX7_bestIf_34 : decode cX7_bestIf 34 = .ok (.isub, 1) := by decide +kernel
theorem dX7_bestIf_35 : decode cX7_bestIf 35 = .ok (.iaload, 1) := by decide +kernel
theorem dX7_bestIf_36 : decode cX7_bestIf 36 = .ok (.iconst 4, 1) := by decide +kernel
theorem dX7_bestIf_37 : decode cX7_bestIf 37 = .ok (.aload_n 1, 1) := by decide +kernel
theorem dX7_bestIf_38 : decode cX7_bestIf 38 = .ok (.iload_n 2, 1) := by decide +kernel
theorem dX7_bestIf_39 : decode cX7_bestIf 39 = .ok (.iload_n 3, 1) := by decide +kernel
theorem dX7_bestIf_40 : decode cX7_bestIf 40 = .ok (.iload 7, 2) := by decide +kernel
theorem dX7_bestIf_42 : decode cX7_bestIf 42 = .ok (.invokevirtual 104, 3) := by decide +kernel
theorem dX7_bestIf_45 : decode cX7_bestIf 45 = .ok (.imul, 1) := by decide +kernel
theorem dX7_bestIf_46 : decode cX7_bestIf 46 = .ok (.isub, 1) := by decide +kernel
theorem dX7_bestIf_47 : decode cX7_bestIf 47 = .ok (.i2l, 1) := by decide +kernel
theorem dX7_bestIf_48 : decode cX7_bestIf 48 = .ok (.lstore 8, 2) := by decide +kernel
theorem dX7_bestIf_50 : decode cX7_bestIf 50 = .ok (.iload 7, 2) := by decide +kernel
theorem dX7_bestIf_52 : decode cX7_bestIf 52 = .ok (.aload_n 0, 1) := by decide +kernel
theorem dX7_bestIf_53 : decode cX7_bestIf 53 = .ok (.getfield 9, 3) := by decide +kernel
theorem dX7_bestIf_56 : decode cX7_bestIf 56 = .ok (.if_icmp .eq 19, 3) := by decide +kernel
theorem dX7_bestIf_59 : decode cX7_bestIf 59 = .ok (.lload 8, 2) := by decide +kernel
theorem dX7_bestIf_61 : decode cX7_bestIf 61 = .ok (.iload 4, 2) := by decide +kernel
theorem dX7_bestIf_63 : decode cX7_bestIf 63 = .ok (.i2l, 1) := by decide +kernel
theorem dX7_bestIf_64 : decode cX7_bestIf 64 = .ok (.lmul, 1) := by decide +kernel
theorem dX7_bestIf_65 : decode cX7_bestIf 65 = .ok (.lload 5, 2) := by decide +kernel
theorem dX7_bestIf_67 : decode cX7_bestIf 67 = .ok (.iload 7, 2) := by decide +kernel
theorem dX7_bestIf_69 : decode cX7_bestIf 69 = .ok (.i2l, 1) := by decide +kernel
theorem dX7_bestIf_70 : decode cX7_bestIf 70 = .ok (.lmul, 1) := by decide +kernel
theorem dX7_bestIf_71 : decode cX7_bestIf 71 = .ok (.lcmp, 1) := by decide +kernel
theorem dX7_bestIf_72 : decode cX7_bestIf 72 = .ok (.ifCond .lt 11, 3) := by decide +kernel
theorem dX7_bestIf_75 : decode cX7_bestIf 75 = .ok (.iload 7, 2) := by decide +kernel
theorem dX7_bestIf_77 : decode cX7_bestIf 77 = .ok (.istore 4, 2) := by decide +kernel
theorem dX7_bestIf_79 : decode cX7_bestIf 79 = .ok (.lload 8, 2) := by decide +kernel
theorem dX7_bestIf_81 : decode cX7_bestIf 81 = .ok (.lstore 5, 2) := by decide +kernel
theorem dX7_bestIf_83 : decode cX7_bestIf 83 = .ok (.iinc 7 1, 3) := by decide +kernel
theorem dX7_bestIf_86 : decode cX7_bestIf 86 = .ok (.goto (-71), 3) := by decide +kernel
theorem dX7_bestIf_89 : decode cX7_bestIf 89 = .ok (.iload 4, 2) := by decide +kernel
theorem dX7_bestIf_91 : decode cX7_bestIf 91 = .ok (.ireturn, 1) := by decide +kernel
theorem dX7_listOffs_0 : decode cX7_listOffs 0 = .ok (.iload_n 2, 1) := by decide +kernel
theorem dX7_listOffs_1 : decode cX7_listOffs 1 = .ok (.istore 4, 2) := by decide +kernel
theorem dX7_listOffs_3 : decode cX7_listOffs 3 = .ok (.iload 4, 2) := by decide +kernel
theorem dX7_listOffs_5 : decode cX7_listOffs 5 = .ok (.iload_n 3, 1) := by decide +kernel
theorem dX7_listOffs_6 : decode cX7_listOffs 6 = .ok (.if_icmp .gt 66, 3) := by decide +kernel
theorem dX7_listOffs_9 : decode cX7_listOffs 9 = .ok (.iload 4, 2) := by decide +kernel
theorem dX7_listOffs_11 : decode cX7_listOffs 11 = .ok (.iload_n 2, 1) := by decide +kernel
theorem dX7_listOffs_12 : decode cX7_listOffs 12 = .ok (.isub, 1) := by decide +kernel
theorem dX7_listOffs_13 : decode cX7_listOffs 13 = .ok (.bipush 40, 2) := by decide +kernel
theorem dX7_listOffs_15 : decode cX7_listOffs 15 = .ok (.if_icmp .gt 57, 3) := by decide +kernel
theorem dX7_listOffs_18 : decode cX7_listOffs 18 = .ok (.iconst 0, 1) := by decide +kernel
theorem dX7_listOffs_19 : decode cX7_listOffs 19 = .ok (.istore 5, 2) := by decide +kernel
theorem dX7_listOffs_21 : decode cX7_listOffs 21 = .ok (.iload 5, 2) := by decide +kernel
theorem dX7_listOffs_23 : decode cX7_listOffs 23 = .ok (.aload_n 1, 1) := by decide +kernel
theorem dX7_listOffs_24 : decode cX7_listOffs 24 = .ok (.getfield 76, 3) := by decide +kernel
theorem dX7_listOffs_27 : decode cX7_listOffs 27 = .ok (.if_icmp .ge 39, 3) := by decide +kernel
theorem dX7_listOffs_30 : decode cX7_listOffs 30 = .ok (.iload 5, 2) := by decide +kernel
theorem dX7_listOffs_32 : decode cX7_listOffs 32 = .ok (.bipush 32, 2) := by decide +kernel
theorem dX7_listOffs_34 : decode cX7_listOffs 34 = .ok (.if_icmp .ge 32, 3) := by decide +kernel
theorem dX7_listOffs_37 : decode cX7_listOffs 37 = .ok (.aload_n 0, 1) := by decide +kernel
theorem dX7_listOffs_38 : decode cX7_listOffs 38 = .ok (.getfield 31, 3) := by decide +kernel
theorem dX7_listOffs_41 : decode cX7_listOffs 41 = .ok (.iload 4, 2) := by decide +kernel
theorem dX7_listOffs_43 : decode cX7_listOffs 43 = .ok (.iload_n 2, 1) := by decide +kernel
theorem dX7_listOffs_44 : decode cX7_listOffs 44 = .ok (.isub, 1) := by decide +kernel
theorem dX7_listOffs_45 : decode cX7_listOffs 45 = .ok (.bipush 32, 2) := by decide +kernel
theorem dX7_listOffs_47 : decode cX7_listOffs 47 = .ok (.imul, 1) := by decide +kernel
theorem dX7_listOffs_48 : decode cX7_listOffs 48 = .ok (.iload 5, 2) := by decide +kernel
theorem dX7_listOffs_50 : decode cX7_listOffs 50 = .ok (.iadd, 1) := by decide +kernel
theorem dX7_listOffs_51 : decode cX7_listOffs 51 = .ok (.aload_n 1, 1) := by decide +kernel
theorem dX7_listOffs_52 : decode cX7_listOffs 52 = .ok (.iload 5, 2) := by decide +kernel
theorem dX7_listOffs_54 : decode cX7_listOffs 54 = .ok (.iload 4, 2) := by decide +kernel
theorem dX7_listOffs_56 : decode cX7_listOffs 56 = .ok (.invokevirtual 79, 3) := by decide +kernel
theorem dX7_listOffs_59 : decode cX7_listOffs 59 = .ok (.iastore, 1) := by decide +kernel
theorem dX7_listOffs_60 : decode cX7_listOffs 60 = .ok (.iinc 5 1, 3) := by decide +kernel
theorem dX7_listOffs_63 : decode cX7_listOffs 63 = .ok (.goto (-42), 3) := by decide +kernel
theorem dX7_listOffs_66 : decode cX7_listOffs 66 = .ok (.iinc 4 1, 3) := by decide +kernel
theorem dX7_listOffs_69 : decode cX7_listOffs 69 = .ok (.goto (-66), 3) := by decide +kernel
theorem dX7_listOffs_72 : decode cX7_listOffs 72 = .ok (.return_, 1) := by decide +kernel
theorem dX7_sumOfListed_0 : decode cX7_sumOfListed 0 = .ok (.iload_n 3, 1) := by decide +kernel
theorem dX7_sumOfListed_1 : decode cX7_sumOfListed 1 = .ok (.iload_n 2, 1) := by decide +kernel
theorem dX7_sumOfListed_2 : decode cX7_sumOfListed 2 = .ok (.if_icmp .lt 26, 3) := by decide +kernel
theorem dX7_sumOfListed_5 : decode cX7_sumOfListed 5 = .ok (.iload 4, 2) := by decide +kernel
theorem dX7_sumOfListed_7 : decode cX7_sumOfListed 7 = .ok (.iload_n 2, 1) := by decide +kernel
theorem dX7_sumOfListed_8 : decode cX7_sumOfListed 8 = .ok (.if_icmp .lt 20, 3) := by decide +kernel
theorem dX7_sumOfListed_11 : decode cX7_sumOfListed 11 = .ok (.iload_n 3, 1) := by decide +kernel
theorem dX7_sumOfListed_12 : decode cX7_sumOfListed 12 = .ok (.iload_n 2, 1) := by decide +kernel
theorem dX7_sumOfListed_13 : decode cX7_sumOfListed 13 = .ok (.isub, 1) := by decide +kernel
theorem dX7_sumOfListed_14 : decode cX7_sumOfListed 14 = .ok (.bipush 40, 2) := by decide +kernel
theorem dX7_sumOfListed_16 : decode cX7_sumOfListed 16 = .ok (.if_icmp .gt 12, 3) := by decide +kernel
theorem dX7_sumOfListed_19 : decode cX7_sumOfListed 19 = .ok (.iload 4, 2) := by decide +kernel
theorem dX7_sumOfListed_21 : decode cX7_sumOfListed 21 = .ok (.iload_n 2, 1) := by decide +kernel
theorem dX7_sumOfListed_22 : decode cX7_sumOfListed 22 = .ok (.isub, 1) := by decide +kernel
theorem dX7_sumOfListed_23 : decode cX7_sumOfListed 23 = .ok (.bipush 40, 2) := by decide +kernel
theorem dX7_sumOfListed_25 : decode cX7_sumOfListed 25 = .ok (.if_icmp .le 5, 3) := by decide +kernel
theorem dX7_sumOfListed_28 : decode cX7_sumOfListed 28 = .ok (.lconst 0, 1) := by decide +kernel
theorem dX7_sumOfListed_29 : decode cX7_sumOfListed 29 = .ok (.lreturn, 1) := by decide +kernel
theorem dX7_sumOfListed_30 : decode cX7_sumOfListed 30 = .ok (.iload_n 3, 1) := by decide +kernel
theorem dX7_sumOfListed_31 : decode cX7_sumOfListed 31 = .ok (.iload_n 2, 1) := by decide +kernel
theorem dX7_sumOfListed_32 : decode cX7_sumOfListed 32 = .ok (.isub, 1) := by decide +kernel
theorem dX7_sumOfListed_33 : decode cX7_sumOfListed 33 = .ok (.bipush 32, 2) := by decide +kernel
theorem dX7_sumOfListed_35 : decode cX7_sumOfListed 35 = .ok (.imul, 1) := by decide +kernel
theorem dX7_sumOfListed_36 : decode cX7_sumOfListed 36 = .ok (.istore 5, 2) := by decide +kernel
theorem dX7_sumOfListed_38 : decode cX7_sumOfListed 38 = .ok (.iload 4, 2) := by decide +kernel
theorem dX7_sumOfListed_40 : decode cX7_sumOfListed 40 = .ok (.iload_n 2, 1) := by decide +kernel
theorem dX7_sumOfListed_41 : decode cX7_sumOfListed 41 = .ok (.isub, 1) := by decide +kernel
theorem dX7_sumOfListed_42 : decode cX7_sumOfListed 42 = .ok (.bipush 32, 2) := by decide +kernel
theorem dX7_sumOfListed_44 : decode cX7_sumOfListed 44 = .ok (.imul, 1) := by decide +kernel
theorem dX7_sumOfListed_45 : decode cX7_sumOfListed 45 = .ok (.istore 6, 2) := by decide +kernel
theorem dX7_sumOfListed_47 : decode cX7_sumOfListed 47 = .ok (.lconst 0, 1) := by decide +kernel
theorem dX7_sumOfListed_48 : decode cX7_sumOfListed 48 = .ok (.lstore 7, 2) := by decide +kernel
theorem dX7_sumOfListed_50 : decode cX7_sumOfListed 50 = .ok (.iconst 0, 1) := by decide +kernel
theorem dX7_sumOfListed_51 : decode cX7_sumOfListed 51 = .ok (.istore 9, 2) := by decide +kernel
theorem dX7_sumOfListed_53 : decode cX7_sumOfListed 53 = .ok (.iload 9, 2) := by decide +kernel
theorem dX7_sumOfListed_55 : decode cX7_sumOfListed 55 = .ok (.iload_n 1, 1) := by decide +kernel
theorem dX7_sumOfListed_56 : decode cX7_sumOfListed 56 = .ok (.if_icmp .ge 50, 3) := by decide +kernel
theorem dX7_sumOfListed_59 : decode cX7_sumOfListed 59 = .ok (.iload 9, 2) := by decide +kernel
theorem dX7_sumOfListed_61 : decode cX7_sumOfListed 61 = .ok (.bipush 32, 2) := by decide +kernel
theorem dX7_sumOfListed_63 : decode cX7_sumOfListed 63 = .ok (.if_icmp .ge 43, 3) := by decide +kernel
theorem dX7_sumOfListed_66 : decode cX7_sumOfListed 66 = .ok (.lload 7, 2) := by decide +kernel
theorem dX7_sumOfListed_68 : decode cX7_sumOfListed 68 = .ok (.aload_n 0, 1) := by decide +kernel
theorem dX7_sumOfListed_69 : decode cX7_sumOfListed 69 = .ok (.getfield 31, 3) := by decide +kernel
theorem dX7_sumOfListed_72 : decode cX7_sumOfListed 72 = .ok (.iload 5, 2) := by decide +kernel
theorem dX7_sumOfListed_74 : decode cX7_sumOfListed 74 = .ok (.iload 9, 2) := by decide +kernel
theorem dX7_sumOfListed_76 : decode cX7_sumOfListed 76 = .ok (.iadd, 1) := by decide +kernel
theorem dX7_sumOfListed_77 : decode cX7_sumOfListed 77 = .ok (.iaload, 1) := by decide +kernel
theorem dX7_sumOfListed_78 : decode cX7_sumOfListed 78 = .ok (.iload 4, 2) := by decide +kernel
theorem dX7_sumOfListed_80 : decode cX7_sumOfListed 80 = .ok (.imul, 1) := by decide +kernel
theorem dX7_sumOfListed_81 : decode cX7_sumOfListed 81 = .ok (.aload_n 0, 1) := by decide +kernel
theorem dX7_sumOfListed_82 : decode cX7_sumOfListed 82 = .ok (.getfield 31, 3) := by decide +kernel
theorem dX7_sumOfListed_85 : decode cX7_sumOfListed 85 = .ok (.iload 6, 2) := by decide +kernel
theorem dX7_sumOfListed_87 : decode cX7_sumOfListed 87 = .ok (.iload 9, 2) := by decide +kernel
theorem dX7_sumOfListed_89 : decode cX7_sumOfListed 89 = .ok (.iadd, 1) := by decide +kernel
theorem dX7_sumOfListed_90 : decode cX7_sumOfListed 90 = .ok (.iaload, 1) := by decide +kernel
theorem dX7_sumOfListed_91 : decode cX7_sumOfListed 91 = .ok (.iload_n 3, 1) := by decide +kernel
theorem dX7_sumOfListed_92 : decode cX7_sumOfListed 92 = .ok (.imul, 1) := by decide +kernel
theorem dX7_sumOfListed_93 : decode cX7_sumOfListed 93 = .ok (.invokestatic 34, 3) := by decide +kernel
theorem dX7_sumOfListed_96 : decode cX7_sumOfListed 96 = .ok (.i2l, 1) := by decide +kernel
theorem dX7_sumOfListed_97 : decode cX7_sumOfListed 97 = .ok (.ladd, 1) := by decide +kernel
theorem dX7_sumOfListed_98 : decode cX7_sumOfListed 98 = .ok (.lstore 7, 2) := by decide +kernel
theorem dX7_sumOfListed_100 : decode cX7_sumOfListed 100 = .ok (.iinc 9 1, 3) := by decide +kernel
theorem dX7_sumOfListed_103 : decode cX7_sumOfListed 103 = .ok (.goto (-50), 3) := by decide +kernel
theorem dX7_sumOfListed_106 : decode cX7_sumOfListed 106 = .ok (.iload_n 3, 1) := by decide +kernel
theorem dX7_sumOfListed_107 : decode cX7_sumOfListed 107 = .ok (.i2l, 1) := by decide +kernel
theorem dX7_sumOfListed_108 : decode cX7_sumOfListed 108 = .ok (.iload 4, 2) := by decide +kernel
theorem dX7_sumOfListed_110 : decode cX7_sumOfListed 110 = .ok (.i2l, 1) := by decide +kernel
theorem dX7_sumOfListed_111 : decode cX7_sumOfListed 111 = .ok (.lmul, 1) := by decide +kernel
theorem dX7_sumOfListed_112 : decode cX7_sumOfListed 112 = .ok (.iload_n 1, 1) := by decide +kernel
theorem dX7_sumOfListed_113 : decode cX7_sumOfListed 113 = .ok (.i2l, 1) := by decide +kernel
theorem dX7_sumOfListed_114 : decode cX7_sumOfListed 114 = .ok (.lmul, 1) := by decide +kernel
theorem dX7_sumOfListed_115 : decode cX7_sumOfListed 115 = .ok (.ldc2_w 82, 3) := by decide +kernel
theorem dX7_sumOfListed_118 : decode cX7_sumOfListed 118 = .ok (.lload 7, 2) := by decide +kernel
theorem dX7_sumOfListed_120 : decode cX7_sumOfListed 120 = .ok (.lmul, 1) := by decide +kernel
theorem dX7_sumOfListed_121 : decode cX7_sumOfListed 121 = .ok (.lsub, 1) := by decide +kernel
theorem dX7_sumOfListed_122 : decode cX7_sumOfListed 122 = .ok (.lreturn, 1) := by decide +kernel
theorem dX8_init_0 : decode cX8_init 0 = .ok (.aload_n 0, 1) := by decide +kernel
theorem dX8_init_1 : decode cX8_init 1 = .ok (.invokespecial 3, 3) := by decide +kernel
theorem dX8_init_4 : decode cX8_init 4 = .ok (.aload_n 0, 1) := by decide +kernel
theorem dX8_init_5 : decode cX8_init 5 = .ok (.new 9, 3) := by decide +kernel
theorem dX8_init_8 : decode cX8_init 8 = .ok (.dup, 1) := by decide +kernel
theorem dX8_init_9 : decode cX8_init 9 = .ok (.invokespecial 11, 3) := by decide +kernel
theorem dX8_init_12 : decode cX8_init 12 = .ok (.putfield 12, 3) := by decide +kernel
theorem dX8_init_15 : decode cX8_init 15 = .ok (.aload_n 0, 1) := by decide +kernel
theorem dX8_init_16 : decode cX8_init 16 = .ok (.new 18, 3) := by decide +kernel
theorem dX8_init_19 : decode cX8_init 19 = .ok (.dup, 1) := by decide +kernel
theorem dX8_init_20 : decode cX8_init 20 = .ok (.invokespecial 20, 3) := by decide +kernel
theorem dX8_init_23 : decode cX8_init 23 = .ok (.putfield 21, 3) := by decide +kernel
theorem dX8_init_26 : decode cX8_init 26 = .ok (.aload_n 0, 1) := by decide +kernel
theorem dX8_init_27 : decode cX8_init 27 = .ok (.new 25, 3) := by decide +kernel
theorem dX8_init_30 : decode cX8_init 30 = .ok (.dup, 1) := by decide +kernel
theorem dX8_init_31 : decode cX8_init 31 = .ok (.invokespecial 27, 3) := by decide +kernel
theorem dX8_init_34 : decode cX8_init 34 = .ok (.putfield 28, 3) := by decide +kernel
theorem dX8_init_37 : decode cX8_init 37 = .ok (.aload_n 0, 1) := by decide +kernel
theorem dX8_init_38 : decode cX8_init 38 = .ok (.new 25, 3) := by decide +kernel
theorem dX8_init_41 : decode cX8_init 41 = .ok (.dup, 1) := by decide +kernel
theorem dX8_init_42 : decode cX8_init 42 = .ok (.invokespecial 27, 3) := by decide +kernel
theorem dX8_init_45 : decode cX8_init 45 = .ok (.putfield 32, 3) := by decide +kernel
theorem dX8_init_48 : decode cX8_init 48 = .ok (.aload_n 0, 1) := by decide +kernel
theorem dX8_init_49 : decode cX8_init 49 = .ok (.new 35, 3) := by decide +kernel
theorem dX8_init_52 : decode cX8_init 52 = .ok (.dup, 1) := by decide +kernel
theorem dX8_init_53 : decode cX8_init 53 = .ok (.invokespecial 37, 3) := by decide +kernel
theorem dX8_init_56 : decode cX8_init 56 = .ok (.putfield 38, 3) := by decide +kernel
theorem dX8_init_59 : decode cX8_init 59 = .ok (.aload_n 0, 1) := by decide +kernel
theorem dX8_init_60 : decode cX8_init 60 = .ok (.iconst 0, 1) := by decide +kernel
theorem dX8_init_61 : decode cX8_init 61 = .ok (.putfield 42, 3) := by decide +kernel
theorem dX8_init_64 : decode cX8_init 64 = .ok (.aload_n 0, 1) := by decide +kernel
theorem dX8_init_65 : decode cX8_init 65 = .ok (.iconst (-1), 1) := by decide +kernel
theorem dX8_init_66 : decode cX8_init 66 = .ok (.putfield 46, 3) := by decide +kernel
theorem dX8_init_69 : decode cX8_init 69 = .ok (.return_, 1) := by decide +kernel
theorem dX8_copyFrom_0 : decode cX8_copyFrom 0 = .ok (.aload_n 0, 1) := by decide +kernel
theorem dX8_copyFrom_1 : decode cX8_copyFrom 1 = .ok (.getfield 12, 3) := by decide +kernel
theorem dX8_copyFrom_4 : decode cX8_copyFrom 4 = .ok (.aload_n 1, 1) := by decide +kernel
theorem dX8_copyFrom_5 : decode cX8_copyFrom 5 = .ok (.getfield 12, 3) := by decide +kernel
theorem dX8_copyFrom_8 : decode cX8_copyFrom 8 = .ok (.invokevirtual 49, 3) := by decide +kernel
theorem dX8_copyFrom_11 : decode cX8_copyFrom 11 = .ok (.aload_n 0, 1) := by decide +kernel
theorem dX8_copyFrom_12 : decode cX8_copyFrom 12 = .ok (.getfield 21, 3) := by decide +kernel
theorem dX8_copyFrom_15 : decode cX8_copyFrom 15 = .ok (.aload_n 1, 1) := by decide +kernel
theorem dX8_copyFrom_16 : decode cX8_copyFrom 16 = .ok (.getfield 21, 3) := by decide +kernel
theorem dX8_copyFrom_19 : decode cX8_copyFrom 19 = .ok (.invokevirtual 53, 3) := by decide +kernel
theorem dX8_copyFrom_22 : decode cX8_copyFrom 22 = .ok (.aload_n 0, 1) := by decide +kernel
theorem dX8_copyFrom_23 : decode cX8_copyFrom 23 = .ok (.getfield 28, 3) := by decide +kernel
theorem dX8_copyFrom_26 : decode cX8_copyFrom 26 = .ok (.aload_n 1, 1) := by decide +kernel
theorem dX8_copyFrom_27 : decode cX8_copyFrom 27 = .ok (.getfield 28, 3) := by decide +kernel
theorem dX8_copyFrom_30 : decode cX8_copyFrom 30 = .ok (.invokevirtual 56, 3) := by decide +kernel
theorem dX8_copyFrom_33 : decode cX8_copyFrom 33 = .ok (.aload_n 0, 1) := by decide +kernel
theorem dX8_copyFrom_34 : decode cX8_copyFrom 34 = .ok (.getfield 32, 3) := by decide +kernel
theorem dX8_copyFrom_37 : decode cX8_copyFrom 37 = .ok (.aload_n 1, 1) := by decide +kernel
theorem dX8_copyFrom_38 : decode cX8_copyFrom 38 = .ok (.getfield 32, 3) := by decide +kernel
theorem dX8_copyFrom_41 : decode cX8_copyFrom 41 = .ok (.invokevirtual 56, 3) := by decide +kernel
theorem dX8_copyFrom_44 : decode cX8_copyFrom 44 = .ok (.aload_n 0, 1) := by decide +kernel
theorem dX8_copyFrom_45 : decode cX8_copyFrom 45 = .ok (.getfield 38, 3) := by decide +kernel
theorem dX8_copyFrom_48 : decode cX8_copyFrom 48 = .ok (.aload_n 1, 1) := by decide +kernel
theorem dX8_copyFrom_49 : decode cX8_copyFrom 49 = .ok (.getfield 38, 3) := by decide +kernel
theorem dX8_copyFrom_52 : decode cX8_copyFrom 52 = .ok (.invokevirtual 59, 3) := by decide +kernel
theorem dX8_copyFrom_55 : decode cX8_copyFrom 55 = .ok (.aload_n 0, 1) := by decide +kernel
theorem dX8_copyFrom_56 : decode cX8_copyFrom 56 = .ok (.aload_n 1, 1) := by decide +kernel
theorem dX8_copyFrom_57 : decode cX8_copyFrom 57 = .ok (.getfield 42, 3) := by decide +kernel
theorem dX8_copyFrom_60 : decode cX8_copyFrom 60 = .ok (.putfield 42, 3) := by decide +kernel
theorem dX8_copyFrom_63 : decode cX8_copyFrom 63 = .ok (.aload_n 0, 1) := by decide +kernel
theorem dX8_copyFrom_64 : decode cX8_copyFrom 64 = .ok (.aload_n 1, 1) := by decide +kernel
theorem dX8_copyFrom_65 : decode cX8_copyFrom 65 = .ok (.getfield 46, 3) := by decide +kernel
theorem dX8_copyFrom_68 : decode cX8_copyFrom 68 = .ok (.putfield 46, 3) := by decide +kernel
theorem dX8_copyFrom_71 : decode cX8_copyFrom 71 = .ok (.return_, 1) := by decide +kernel
theorem dX9_init_0 : decode cX9_init 0 = .ok (.aload_n 0, 1) := by decide +kernel
theorem dX9_init_1 : decode cX9_init 1 = .ok (.invokespecial 3, 3) := by decide +kernel
theorem dX9_init_4 : decode cX9_init 4 = .ok (.aload_n 0, 1) := by decide +kernel
theorem dX9_init_5 : decode cX9_init 5 = .ok (.sipush 500, 3) := by decide +kernel
theorem dX9_init_8 : decode cX9_init 8 = .ok (.newarray .byte, 2) := by decide +kernel
theorem dX9_init_10 : decode cX9_init 10 = .ok (.putfield 9, 3) := by decide +kernel
theorem dX9_init_13 : decode cX9_init 13 = .ok (.aload_n 0, 1) := by decide +kernel
theorem dX9_init_14 : decode cX9_init 14 = .ok (.iconst 0, 1) := by decide +kernel
theorem dX9_init_15 : decode cX9_init 15 = .ok (.putfield 15, 3) := by decide +kernel
theorem dX9_init_18 : decode cX9_init 18 = .ok (.return_, 1) := by decide +kernel
theorem dX9_hasRoom_0 : decode cX9_hasRoom 0 = .ok (.aload_n 0, 1) := by decide +kernel
theorem dX9_hasRoom_1 : decode cX9_hasRoom 1 = .ok (.getfield 15, 3) := by decide +kernel
theorem dX9_hasRoom_4 : decode cX9_hasRoom 4 = .ok (.iload_n 1, 1) := by decide +kernel
theorem dX9_hasRoom_5 : decode cX9_hasRoom 5 = .ok (.iadd, 1) := by decide +kernel
theorem dX9_hasRoom_6 : decode cX9_hasRoom 6 = .ok (.sipush 500, 3) := by decide +kernel
theorem dX9_hasRoom_9 : decode cX9_hasRoom 9 = .ok (.if_icmp .gt 7, 3) := by decide +kernel
theorem dX9_hasRoom_12 : decode cX9_hasRoom 12 = .ok (.iconst 1, 1) := by decide +kernel
theorem dX9_hasRoom_13 : decode cX9_hasRoom 13 = .ok (.goto 4, 3) := by decide +kernel
theorem dX9_hasRoom_16 : decode cX9_hasRoom 16 = .ok (.iconst 0, 1) := by decide +kernel
theorem dX9_hasRoom_17 : decode cX9_hasRoom 17 = .ok (.ireturn, 1) := by decide +kernel
theorem dX9_add_0 : decode cX9_add 0 = .ok (.bipush 24, 2) := by decide +kernel
theorem dX9_add_2 : decode cX9_add 2 = .ok (.istore_n 2, 1) := by decide +kernel
theorem dX9_add_3 : decode cX9_add 3 = .ok (.iload_n 2, 1) := by decide +kernel
theorem dX9_add_4 : decode cX9_add 4 = .ok (.ifCond .lt 42, 3) := by decide +kernel
theorem dX9_add_7 : decode cX9_add 7 = .ok (.aload_n 0, 1) := by decide +kernel
theorem dX9_add_8 : decode cX9_add 8 = .ok (.getfield 15, 3) := by decide +kernel
theorem dX9_add_11 : decode cX9_add 11 = .ok (.sipush 500, 3) := by decide +kernel
theorem dX9_add_14 : decode cX9_add 14 = .ok (.if_icmp .ge 32, 3) := by decide +kernel
theorem dX9_add_17 : decode cX9_add 17 = .ok (.aload_n 0, 1) := by decide +kernel
theorem dX9_add_18 : decode cX9_add 18 = .ok (.getfield 9, 3) := by decide +kernel
theorem dX9_add_21 : decode cX9_add 21 = .ok (.aload_n 0, 1) := by decide +kernel
theorem dX9_add_22 : decode cX9_add 22 = .ok (.getfield 15, 3) := by decide +kernel
theorem dX9_add_25 : decode cX9_add 25 = .ok (.iload_n 1, 1) := by decide +kernel
theorem dX9_add_26 : decode cX9_add 26 = .ok (.iload_n 2, 1) := by decide +kernel
theorem dX9_add_27 : decode cX9_add 27 = .ok (.ishr, 1) := by decide +kernel
theorem dX9_add_28 : decode cX9_add 28 = .ok (.i2b, 1) := by decide +kernel
theorem dX9_add_29 : decode cX9_add 29 = .ok (.bastore, 1) := by decide +kernel
theorem dX9_add_30 : decode cX9_add 30 = .ok (.aload_n 0, 1) := by decide +kernel
theorem dX9_add_31 : decode cX9_add 31 = .ok (.dup, 1) := by decide +kernel
theorem dX9_add_32 : decode cX9_add 32 = .ok (.getfield 15, 3) := by decide +kernel
theorem dX9_add_35 : decode cX9_add 35 = .ok (.iconst 1, 1) := by decide +kernel
theorem dX9_add_36 : decode cX9_add 36 = .ok (.iadd, 1) := by decide +kernel
theorem dX9_add_37 : decode cX9_add 37 = .ok (.putfield 15, 3) := by decide +kernel
theorem dX9_add_40 : decode cX9_add 40 = .ok (.iinc 2 (-8), 3) := by decide +kernel
theorem dX9_add_43 : decode cX9_add 43 = .ok (.goto (-40), 3) := by decide +kernel
theorem dX9_add_46 : decode cX9_add 46 = .ok (.return_, 1) := by decide +kernel
theorem dX9_cut_0 : decode cX9_cut 0 = .ok (.iload_n 1, 1) := by decide +kernel
theorem dX9_cut_1 : decode cX9_cut 1 = .ok (.ifCond .lt 11, 3) := by decide +kernel
theorem dX9_cut_4 : decode cX9_cut 4 = .ok (.iload_n 1, 1) := by decide +kernel
theorem dX9_cut_5 : decode cX9_cut 5 = .ok (.aload_n 0, 1) := by decide +kernel
theorem dX9_cut_6 : decode cX9_cut 6 = .ok (.getfield 15, 3) := by decide +kernel
theorem dX9_cut_9 : decode cX9_cut 9 = .ok (.if_icmp .le 5, 3) := by decide +kernel
theorem dX9_cut_12 : decode cX9_cut 12 = .ok (.iconst 0, 1) := by decide +kernel
theorem dX9_cut_13 : decode cX9_cut 13 = .ok (.ireturn, 1) := by decide +kernel
theorem dX9_cut_14 : decode cX9_cut 14 = .ok (.aload_n 0, 1) := by decide +kernel
theorem dX9_cut_15 : decode cX9_cut 15 = .ok (.iload_n 1, 1) := by decide +kernel
theorem dX9_cut_16 : decode cX9_cut 16 = .ok (.putfield 15, 3) := by decide +kernel
theorem dX9_cut_19 : decode cX9_cut 19 = .ok (.iconst 1, 1) := by decide +kernel
theorem dX9_cut_20 : decode cX9_cut 20 = .ok (.ireturn, 1) := by decide +kernel
theorem dX9_byteAt_0 : decode cX9_byteAt 0 = .ok (.iload_n 1, 1) := by decide +kernel
theorem dX9_byteAt_1 : decode cX9_byteAt 1 = .ok (.ifCond .lt 31, 3) := by decide +kernel
theorem dX9_byteAt_4 : decode cX9_byteAt 4 = .ok (.iload_n 1, 1) := by decide +kernel
theorem dX9_byteAt_5 : decode cX9_byteAt 5 = .ok (.aload_n 0, 1) := by decide +kernel
theorem dX9_byteAt_6 : decode cX9_byteAt 6 = .ok (.getfield 15, 3) := by decide +kernel
theorem dX9_byteAt_9 : decode cX9_byteAt 9 = .ok (.if_icmp .ge 23, 3) := by decide +kernel
theorem dX9_byteAt_12 : decode cX9_byteAt 12 = .ok (.iload_n 1, 1) := by decide +kernel
theorem dX9_byteAt_13 : decode cX9_byteAt 13 = .ok (.sipush 500, 3) := by decide +kernel
theorem dX9_byteAt_16 : decode cX9_byteAt 16 = .ok (.if_icmp .ge 16, 3) := by decide +kernel
theorem dX9_byteAt_19 : decode cX9_byteAt 19 = .ok (.aload_n 0, 1) := by decide +kernel
theorem dX9_byteAt_20 : decode cX9_byteAt 20 = .ok (.getfield 9, 3) := by decide +kernel
theorem dX9_byteAt_23 : decode cX9_byteAt 23 = .ok (.iload_n 1, 1) := by decide +kernel
theorem dX9_byteAt_24 : decode cX9_byteAt 24 = .ok (.baload, 1) := by decide +kernel
theorem dX9_byteAt_25 : decode cX9_byteAt 25 = .ok (.sipush 255, 3) := by decide +kernel
theorem dX9_byteAt_28 : decode cX9_byteAt 28 = .ok (.iand, 1) := by decide +kernel
theorem dX9_byteAt_29 : decode cX9_byteAt 29 = .ok (.goto 4, 3) := by decide +kernel
theorem dX9_byteAt_32 : decode cX9_byteAt 32 = .ok (.iconst (-1), 1) := by decide +kernel
theorem dX9_byteAt_33 : decode cX9_byteAt 33 = .ok (.ireturn, 1) := by decide +kernel
theorem dX9_copyFrom_0 : decode cX9_copyFrom 0 = .ok (.aload_n 1, 1) := by decide +kernel
theorem dX9_copyFrom_1 : decode cX9_copyFrom 1 = .ok (.getfield 9, 3) := by decide +kernel
theorem dX9_copyFrom_4 : decode cX9_copyFrom 4 = .ok (.iconst 0, 1) := by decide +kernel
theorem dX9_copyFrom_5 : decode cX9_copyFrom 5 = .ok (.aload_n 0, 1) := by decide +kernel
theorem dX9_copyFrom_6 : decode cX9_copyFrom 6 = .ok (.getfield 9, 3) := by decide +kernel
theorem dX9_copyFrom_9 : decode cX9_copyFrom 9 = .ok (.iconst 0, 1) := by decide +kernel
theorem dX9_copyFrom_10 : decode cX9_copyFrom 10 = .ok (.sipush 500, 3) := by decide +kernel
theorem dX9_copyFrom_13 : decode cX9_copyFrom 13 = .ok (.invokestatic 19, 3) := by decide +kernel
theorem dX9_copyFrom_16 : decode cX9_copyFrom 16 = .ok (.aload_n 0, 1) := by decide +kernel
theorem dX9_copyFrom_17 : decode cX9_copyFrom 17 = .ok (.aload_n 1, 1) := by decide +kernel
theorem dX9_copyFrom_18 : decode cX9_copyFrom 18 = .ok (.getfield 15, 3) := by decide +kernel
theorem dX9_copyFrom_21 : decode cX9_copyFrom 21 = .ok (.putfield 15, 3) := by decide +kernel
theorem dX9_copyFrom_24 : decode cX9_copyFrom 24 = .ok (.return_, 1) := by decide +kernel
theorem dX10_init_0 : decode cX10_init 0 = .ok (.aload_n 0, 1) := by decide +kernel
theorem dX10_init_1 : decode cX10_init 1 = .ok (.invokespecial 1, 3) := by decide +kernel
theorem dX10_init_4 : decode cX10_init 4 = .ok (.aload_n 0, 1) := by decide +kernel
theorem dX10_init_5 : decode cX10_init 5 = .ok (.new 7, 3) := by decide +kernel
theorem dX10_init_8 : decode cX10_init 8 = .ok (.dup, 1) := by decide +kernel
theorem dX10_init_9 : decode cX10_init 9 = .ok (.invokespecial 9, 3) := by decide +kernel
theorem dX10_init_12 : decode cX10_init 12 = .ok (.putfield 10, 3) := by decide +kernel
theorem dX10_init_15 : decode cX10_init 15 = .ok (.aload_n 0, 1) := by decide +kernel
theorem dX10_init_16 : decode cX10_init 16 = .ok (.iconst 3, 1) := by decide +kernel
theorem dX10_init_17 : decode cX10_init 17 = .ok (.anewarray 7, 3) := by decide +kernel
theorem dX10_init_20 : decode cX10_init 20 = .ok (.putfield 16, 3) := by decide +kernel
theorem dX10_init_23 : decode cX10_init 23 = .ok (.aload_n 0, 1) := by decide +kernel
theorem dX10_init_24 : decode cX10_init 24 = .ok (.new 20, 3) := by decide +kernel
theorem dX10_init_27 : decode cX10_init 27 = .ok (.dup, 1) := by decide +kernel
theorem dX10_init_28 : decode cX10_init 28 = .ok (.aload_n 0, 1) := by decide +kernel
theorem dX10_init_29 : decode cX10_init 29 = .ok (.getfield 10, 3) := by decide +kernel
theorem dX10_init_32 : decode cX10_init 32 = .ok (.getfield 22, 3) := by decide +kernel
theorem dX10_init_35 : decode cX10_init 35 = .ok (.invokespecial 26, 3) := by decide +kernel
theorem dX10_init_38 : decode cX10_init 38 = .ok (.putfield 29, 3) := by decide +kernel
theorem dX10_init_41 : decode cX10_init 41 = .ok (.aload_n 0, 1) := by decide +kernel
theorem dX10_init_42 : decode cX10_init 42 = .ok (.new 33, 3) := by decide +kernel
theorem dX10_init_45 : decode cX10_init 45 = .ok (.dup, 1) := by decide +kernel
theorem dX10_init_46 : decode cX10_init 46 = .ok (.invokespecial 35, 3) := by decide +kernel
theorem dX10_init_49 : decode cX10_init 49 = .ok (.putfield 36, 3) := by decide +kernel
theorem dX10_init_52 : decode cX10_init 52 = .ok (.aload_n 0, 1) := by decide +kernel
theorem dX10_init_53 : decode cX10_init 53 = .ok (.new 40, 3) := by decide +kernel
theorem dX10_init_56 : decode cX10_init 56 = .ok (.dup, 1) := by decide +kernel
theorem dX10_init_57 : decode cX10_init 57 = .ok (.invokespecial 42, 3) := by decide +kernel
theorem dX10_init_60 : decode cX10_init 60 = .ok (.putfield 43, 3) := by decide +kernel
theorem dX10_init_63 : decode cX10_init 63 = .ok (.aload_n 0, 1) := by decide +kernel
theorem dX10_init_64 : decode cX10_init 64 = .ok (.new 47, 3) := by decide +kernel
theorem dX10_init_67 : decode cX10_init 67 = .ok (.dup, 1) := by decide +kernel
theorem dX10_init_68 : decode cX10_init 68 = .ok (.invokespecial 49, 3) := by decide +kernel
theorem dX10_init_71 : decode cX10_init 71 = .ok (.putfield 50, 3) := by decide +kernel
theorem dX10_init_74 : decode cX10_init 74 = .ok (.aload_n 0, 1) := by decide +kernel
theorem dX10_init_75 : decode cX10_init 75 = .ok (.bipush 8, 2) := by decide +kernel
theorem dX10_init_77 : decode cX10_init 77 = .ok (.newarray .int, 2) := by decide +kernel
theorem dX10_init_79 : decode cX10_init 79 = .ok (.putfield 54, 3) := by decide +kernel
theorem dX10_init_82 : decode cX10_init 82 = .ok (.return_, 1) := by decide +kernel
theorem dX10_stone_0 : decode cX10_stone 0 = .ok (.aload_n 0, 1) := by decide +kernel
theorem dX10_stone_1 : decode cX10_stone 1 = .ok (.getfield 10, 3) := by decide +kernel
theorem dX10_stone_4 : decode cX10_stone 4 = .ok (.getfield 58, 3) := by decide +kernel
theorem dX10_stone_7 : decode cX10_stone 7 = .ok (.iload_n 1, 1) := by decide +kernel
theorem dX10_stone_8 : decode cX10_stone 8 = .ok (.iload_n 2, 1) := by decide +kernel
theorem dX10_stone_9 : decode cX10_stone 9 = .ok (.iload_n 3, 1) := by decide +kernel
theorem dX10_stone_10 : decode cX10_stone 10 = .ok (.invokevirtual 62, 3) := by decide +kernel
theorem dX10_stone_13 : decode cX10_stone 13 = .ok (.ireturn, 1) := by decide +kernel
theorem dX10_tell_0 : decode cX10_tell 0 = .ok (.aload_n 0, 1) := by decide +kernel
theorem dX10_tell_1 : decode cX10_tell 1 = .ok (.getfield 10, 3) := by decide +kernel
theorem dX10_tell_4 : decode cX10_tell 4 = .ok (.getfield 58, 3) := by decide +kernel
theorem dX10_tell_7 : decode cX10_tell 7 = .ok (.iload_n 1, 1) := by decide +kernel
theorem dX10_tell_8 : decode cX10_tell 8 = .ok (.iload_n 2, 1) := by decide +kernel
theorem dX10_tell_9 : decode cX10_tell 9 = .ok (.iload_n 3, 1) := by decide +kernel
theorem dX10_tell_10 : decode cX10_tell 10 = .ok (.invokevirtual 68, 3) := by decide +kernel
theorem dX10_tell_13 : decode cX10_tell 13 = .ok (.ireturn, 1) := by decide +kernel
theorem dX10_day_0 : decode cX10_day 0 = .ok (.aload_n 0, 1) := by decide +kernel
theorem dX10_day_1 : decode cX10_day 1 = .ok (.getfield 10, 3) := by decide +kernel
theorem dX10_day_4 : decode cX10_day 4 = .ok (.getfield 58, 3) := by decide +kernel
theorem dX10_day_7 : decode cX10_day 7 = .ok (.iload_n 1, 1) := by decide +kernel
theorem dX10_day_8 : decode cX10_day 8 = .ok (.invokevirtual 72, 3) := by decide +kernel
theorem dX10_day_11 : decode cX10_day 11 = .ok (.ireturn, 1) := by decide +kernel
theorem dX10_view_0 : decode cX10_view 0 = .ok (.aload_n 0, 1) := by decide +kernel
theorem dX10_view_1 : decode cX10_view 1 = .ok (.getfield 10, 3) := by decide +kernel
theorem dX10_view_4 : decode cX10_view 4 = .ok (.getfield 58, 3) := by decide +kernel
theorem dX10_view_7 : decode cX10_view 7 = .ok (.iload_n 1, 1) := by decide +kernel
theorem dX10_view_8 : decode cX10_view 8 = .ok (.invokevirtual 76, 3) := by decide +kernel
theorem dX10_view_11 : decode cX10_view 11 = .ok (.ireturn, 1) := by decide +kernel
theorem dX10_fact_0 : decode cX10_fact 0 = .ok (.aload_n 0, 1) := by decide +kernel
theorem dX10_fact_1 : decode cX10_fact 1 = .ok (.getfield 10, 3) := by decide +kernel
theorem dX10_fact_4 : decode cX10_fact 4 = .ok (.getfield 58, 3) := by decide +kernel
theorem dX10_fact_7 : decode cX10_fact 7 = .ok (.iload_n 1, 1) := by decide +kernel
theorem dX10_fact_8 : decode cX10_fact 8 = .ok (.iload_n 2, 1) := by decide +kernel
theorem dX10_fact_9 : decode cX10_fact 9 = .ok (.invokevirtual 79, 3) := by decide +kernel
theorem dX10_fact_12 : decode cX10_fact 12 = .ok (.ireturn, 1) := by decide +kernel
theorem dX10_entry_0 : decode cX10_entry 0 = .ok (.aload_n 0, 1) := by decide +kernel
theorem dX10_entry_1 : decode cX10_entry 1 = .ok (.getfield 10, 3) := by decide +kernel
theorem dX10_entry_4 : decode cX10_entry 4 = .ok (.getfield 58, 3) := by decide +kernel
theorem dX10_entry_7 : decode cX10_entry 7 = .ok (.iload_n 1, 1) := by decide +kernel
theorem dX10_entry_8 : decode cX10_entry 8 = .ok (.iload_n 2, 1) := by decide +kernel
theorem dX10_entry_9 : decode cX10_entry 9 = .ok (.invokevirtual 83, 3) := by decide +kernel
theorem dX10_entry_12 : decode cX10_entry 12 = .ok (.ireturn, 1) := by decide +kernel
theorem dX10_feed_0 : decode cX10_feed 0 = .ok (.aload_n 0, 1) := by decide +kernel
theorem dX10_feed_1 : decode cX10_feed 1 = .ok (.getfield 10, 3) := by decide +kernel
theorem dX10_feed_4 : decode cX10_feed 4 = .ok (.getfield 22, 3) := by decide +kernel
theorem dX10_feed_7 : decode cX10_feed 7 = .ok (.astore 6, 2) := by decide +kernel
theorem dX10_feed_9 : decode cX10_feed 9 = .ok (.aload 6, 2) := by decide +kernel
theorem dX10_feed_11 : decode cX10_feed 11 = .ok (.bipush 20, 2) := by decide +kernel
theorem dX10_feed_13 : decode cX10_feed 13 = .ok (.invokevirtual 86, 3) := by decide +kernel
theorem dX10_feed_16 : decode cX10_feed 16 = .ok (.ifCond .ne 5, 3) := by decide +kernel
theorem dX10_feed_19 : decode cX10_feed 19 = .ok (.iconst (-1), 1) := by decide +kernel
theorem dX10_feed_20 : decode cX10_feed 20 = .ok (.ireturn, 1) := by decide +kernel
theorem dX10_feed_21 : decode cX10_feed 21 = .ok (.aload 6, 2) := by decide +kernel
theorem dX10_feed_23 : decode cX10_feed 23 = .ok (.iload_n 1, 1) := by decide +kernel
theorem dX10_feed_24 : decode cX10_feed 24 = .ok (.invokevirtual 91, 3) := by decide +kernel
theorem dX10_feed_27 : decode cX10_feed 27 = .ok (.aload 6, 2) := by decide +kernel
theorem dX10_feed_29 : decode cX10_feed 29 = .ok (.iload_n 2, 1) := by decide +kernel
theorem dX10_feed_30 : decode cX10_feed 30 = .ok (.invokevirtual 91, 3) := by decide +kernel
theorem dX10_feed_33 : decode cX10_feed 33 = .ok (.aload 6, 2) := by decide +kernel
theorem dX10_feed_35 : decode cX10_feed 35 = .ok (.iload_n 3, 1) := by decide +kernel
theorem dX10_feed_36 : decode cX10_feed 36 = .ok (.invokevirtual 91, 3) := by decide +kernel
theorem dX10_feed_39 : decode cX10_feed 39 = .ok (.aload 6, 2) := by decide +kernel
theorem dX10_feed_41 : decode cX10_feed 41 = .ok (.iload 4, 2) := by decide +kernel
theorem dX10_feed_43 : decode cX10_feed 43 = .ok (.invokevirtual 91, 3) := by decide +kernel
theorem dX10_feed_46 : decode cX10_feed 46 = .ok (.aload 6, 2) := by decide +kernel
theorem dX10_feed_48 : decode cX10_feed 48 = .ok (.iload 5, 2) := by decide +kernel
theorem dX10_feed_50 : decode cX10_feed 50 = .ok (.invokevirtual 91, 3) := by decide +kernel
theorem dX10_feed_53 : decode cX10_feed 53 = .ok (.aload 6, 2) := by decide +kernel
theorem dX10_feed_55 : decode cX10_feed 55 = .ok (.getfield 95, 3) := by decide +kernel
theorem dX10_feed_58 : decode cX10_feed 58 = .ok (.ireturn, 1) := by decide +kernel
theorem dX10_end_0 : decode cX10_end 0 = .ok (.aload_n 0, 1) := by decide +kernel
theorem dX10_end_1 : decode cX10_end 1 = .ok (.getfield 10, 3) := by decide +kernel
theorem dX10_end_4 : decode cX10_end 4 = .ok (.getfield 22, 3) := by decide +kernel
theorem dX10_end_7 : decode cX10_end 7 = .ok (.iload_n 1, 1) := by decide +kernel
theorem dX10_end_8 : decode cX10_end 8 = .ok (.invokevirtual 99, 3) := by decide +kernel
theorem dX10_end_11 : decode cX10_end 11 = .ok (.ifCond .eq 7, 3) := by decide +kernel
theorem dX10_end_14 : decode cX10_end 14 = .ok (.iload_n 1, 1) := by decide +kernel
theorem dX10_end_15 : decode cX10_end 15 = .ok (.goto 4, 3) := by decide +kernel
theorem dX10_end_18 : decode cX10_end 18 = .ok (.iconst (-1), 1) := by decide +kernel
theorem dX10_end_19 : decode cX10_end 19 = .ok (.ireturn, 1) := by decide +kernel
theorem dX10_text_0 : decode cX10_text 0 = .ok (.aload_n 0, 1) := by decide +kernel
theorem dX10_text_1 : decode cX10_text 1 = .ok (.getfield 29, 3) := by decide +kernel
theorem dX10_text_4 : decode cX10_text 4 = .ok (.iload_n 1, 1) := by decide +kernel
theorem dX10_text_5 : decode cX10_text 5 = .ok (.invokevirtual 102, 3) := by decide +kernel
theorem dX10_text_8 : decode cX10_text 8 = .ok (.istore_n 2, 1) := by decide +kernel
theorem dX10_text_9 : decode cX10_text 9 = .ok (.aload_n 0, 1) := by decide +kernel
theorem dX10_text_10 : decode cX10_text 10 = .ok (.getfield 10, 3) := by decide +kernel
theorem dX10_text_13 : decode cX10_text 13 = .ok (.aload_n 0, 1) := by decide +kernel
theorem dX10_text_14 : decode cX10_text 14 = .ok (.getfield 29, 3) := by decide +kernel
theorem dX10_text_17 : decode cX10_text 17 = .ok (.getfield 106, 3) := by decide +kernel
theorem dX10_text_20 : decode cX10_text 20 = .ok (.putfield 109, 3) := by decide +kernel
theorem dX10_text_23 : decode cX10_text 23 = .ok (.aload_n 0, 1) := by decide +kernel
theorem dX10_text_24 : decode cX10_text 24 = .ok (.getfield 10, 3) := by decide +kernel
theorem dX10_text_27 : decode cX10_text 27 = .ok (.aload_n 0, 1) := by decide +kernel
theorem dX10_text_28 : decode cX10_text 28 = .ok (.getfield 29, 3) := by decide +kernel
theorem dX10_text_31 : decode cX10_text 31 = .ok (.getfield 110, 3) := by decide +kernel
theorem dX10_text_34 : decode cX10_text 34 = .ok (.putfield 113, 3) := by decide +kernel
theorem dX10_text_37 : decode cX10_text 37 = .ok (.aload_n 0, 1) := by decide +kernel
theorem dX10_text_38 : decode cX10_text 38 = .ok (.getfield 10, 3) := by decide +kernel
theorem dX10_text_41 : decode cX10_text 41 = .ok (.getfield 22, 3) := by decide +kernel
theorem dX10_text_44 : decode cX10_text 44 = .ok (.iconst 0, 1) := by decide +kernel
theorem dX10_text_45 : decode cX10_text 45 = .ok (.invokevirtual 99, 3) := by decide +kernel
theorem dX10_text_48 : decode cX10_text 48 = .ok (.pop, 1) := by decide +kernel
theorem dX10_text_49 : decode cX10_text 49 = .ok (.iload_n 2, 1) := by decide +kernel
theorem dX10_text_50 : decode cX10_text 50 = .ok (.ifCond .ne 5, 3) := by decide +kernel
theorem dX10_text_53 : decode cX10_text 53 = .ok (.iconst (-1), 1) := by decide +kernel
theorem dX10_text_54 : decode cX10_text 54 = .ok (.ireturn, 1) := by decide +kernel
theorem dX10_text_55 : decode cX10_text 55 = .ok (.iload_n 1, 1) := by decide +kernel
theorem dX10_text_56 : decode cX10_text 56 = .ok (.ifCond .eq 13, 3) := by decide +kernel
theorem dX10_text_59 : decode cX10_text 59 = .ok (.aload_n 0, 1) := by decide +kernel
theorem dX10_text_60 : decode cX10_text 60 = .ok (.getfield 10, 3) := by decide +kernel
theorem dX10_text_63 : decode cX10_text 63 = .ok (.getfield 114, 3) := by decide +kernel
theorem dX10_text_66 : decode cX10_text 66 = .ok (.goto 10, 3) := by decide +kernel
theorem dX10_text_69 : decode cX10_text 69 = .ok (.aload_n 0, 1) := by decide +kernel
theorem dX10_text_70 : decode cX10_text 70 = .ok (.getfield 10, 3) := by decide +kernel
theorem dX10_text_73 : decode cX10_text 73 = .ok (.getfield 118, 3) := by decide +kernel
theorem dX10_text_76 : decode cX10_text 76 = .ok (.astore_n 3, 1) := by decide +kernel
theorem dX10_text_77 : decode cX10_text 77 = .ok (.aload_n 3, 1) := by decide +kernel
theorem dX10_text_78 : decode cX10_text 78 = .ok (.aload_n 0, 1) := by decide +kernel
theorem dX10_text_79 : decode cX10_text 79 = .ok (.getfield 29, 3) := by decide +kernel
theorem dX10_text_82 : decode cX10_text 82 = .ok (.getfield 121, 3) := by decide +kernel
theorem dX10_text_85 : decode cX10_text 85 = .ok (.invokevirtual 124, 3) := by decide +kernel
theorem dX10_text_88 : decode cX10_text 88 = .ok (.aload_n 3, 1) := by decide +kernel
theorem dX10_text_89 : decode cX10_text 89 = .ok (.getfield 130, 3) := by decide +kernel
theorem dX10_text_92 : decode cX10_text 92 = .ok (.ireturn, 1) := by decide +kernel
theorem dX10_fault_0 : decode cX10_fault 0 = .ok (.iload_n 1, 1) := by decide +kernel
theorem dX10_fault_1 : decode cX10_fault 1 = .ok (.lookupswitch 43 #[(0, 27), (1, 35)], 27) := by decide +kernel
theorem dX10_fault_28 : decode cX10_fault 28 = .ok (.aload_n 0, 1) := by decide +kernel
theorem dX10_fault_29 : decode cX10_fault 29 = .ok (.getfield 10, 3) := by decide +kernel
theorem dX10_fault_32 : decode cX10_fault 32 = .ok (.getfield 109, 3) := by decide +kernel
theorem dX10_fault_35 : decode cX10_fault 35 = .ok (.ireturn, 1) := by decide +kernel
theorem dX10_fault_36 : decode cX10_fault 36 = .ok (.aload_n 0, 1) := by decide +kernel
theorem dX10_fault_37 : decode cX10_fault 37 = .ok (.getfield 10, 3) := by decide +kernel
theorem dX10_fault_40 : decode cX10_fault 40 = .ok (.getfield 113, 3) := by decide +kernel
theorem dX10_fault_43 : decode cX10_fault 43 = .ok (.ireturn, 1) := by decide +kernel
theorem dX10_fault_44 : decode cX10_fault 44 = .ok (.iconst (-1), 1) := by decide +kernel
theorem dX10_fault_45 : decode cX10_fault 45 = .ok (.ireturn, 1) := by decide +kernel
theorem dX10_choose_0 : decode cX10_choose 0 = .ok (.aload_n 0, 1) := by decide +kernel
theorem dX10_choose_1 : decode cX10_choose 1 = .ok (.getfield 10, 3) := by decide +kernel
theorem dX10_choose_4 : decode cX10_choose 4 = .ok (.getfield 133, 3) := by decide +kernel
theorem dX10_choose_7 : decode cX10_choose 7 = .ok (.iload_n 1, 1) := by decide +kernel
theorem dX10_choose_8 : decode cX10_choose 8 = .ok (.iload_n 2, 1) := by decide +kernel
theorem dX10_choose_9 : decode cX10_choose 9 = .ok (.iload_n 3, 1) := by decide +kernel
theorem dX10_choose_10 : decode cX10_choose 10 = .ok (.iload 4, 2) := by decide +kernel
theorem dX10_choose_12 : decode cX10_choose 12 = .ok (.iload 5, 2) := by decide +kernel
theorem dX10_choose_14 : decode cX10_choose 14 = .ok (.invokevirtual 137, 3) := by decide +kernel
theorem dX10_choose_17 : decode cX10_choose 17 = .ok (.ireturn, 1) := by decide +kernel
theorem dX10_span_0 : decode cX10_span 0 = .ok (.aload_n 0, 1) := by decide +kernel
theorem dX10_span_1 : decode cX10_span 1 = .ok (.getfield 36, 3) := by decide +kernel
theorem dX10_span_4 : decode cX10_span 4 = .ok (.aload_n 0, 1) := by decide +kernel
theorem dX10_span_5 : decode cX10_span 5 = .ok (.getfield 10, 3) := by decide +kernel
theorem dX10_span_8 : decode cX10_span 8 = .ok (.iload_n 1, 1) := by decide +kernel
theorem dX10_span_9 : decode cX10_span 9 = .ok (.invokevirtual 143, 3) := by decide +kernel
theorem dX10_span_12 : decode cX10_span 12 = .ok (.ifCond .ne 5, 3) := by decide +kernel
theorem dX10_span_15 : decode cX10_span 15 = .ok (.iconst (-1), 1) := by decide +kernel
theorem dX10_span_16 : decode cX10_span 16 = .ok (.ireturn, 1) := by decide +kernel
theorem dX10_span_17 : decode cX10_span 17 = .ok (.iload_n 2, 1) := by decide +kernel
theorem dX10_span_18 : decode cX10_span 18 = .ok (.tableswitch 73 0 2 #[26, 36, 46], 26) := by decide +kernel
theorem dX10_span_44 : decode cX10_span 44 = .ok (.aload_n 0, 1) := by decide +kernel
theorem dX10_span_45 : decode cX10_span 45 = .ok (.getfield 36, 3) := by decide +kernel
theorem dX10_span_48 : decode cX10_span 48 = .ok (.getfield 147, 3) := by decide +kernel
theorem dX10_span_51 : decode cX10_span 51 = .ok (.iconst 0, 1) := by decide +kernel
theorem dX10_span_52 : decode cX10_span 52 = .ok (.iaload, 1) := by decide +kernel
theorem dX10_span_53 : decode cX10_span 53 = .ok (.ireturn, 1) := by decide +kernel
theorem dX10_span_54 : decode cX10_span 54 = .ok (.aload_n 0, 1) := by decide +kernel
theorem dX10_span_55 : decode cX10_span 55 = .ok (.getfield 36, 3) := by decide +kernel
theorem dX10_span_58 : decode cX10_span 58 = .ok (.getfield 150, 3) := by decide +kernel
theorem dX10_span_61 : decode cX10_span 61 = .ok (.iconst 0, 1) := by decide +kernel
theorem dX10_span_62 : decode cX10_span 62 = .ok (.iaload, 1) := by decide +kernel
theorem dX10_span_63 : decode cX10_span 63 = .ok (.ireturn, 1) := by decide +kernel
theorem dX10_span_64 : decode cX10_span 64 = .ok (.aload_n 0, 1) := by decide +kernel
theorem dX10_span_65 : decode cX10_span 65 = .ok (.getfield 10, 3) := by decide +kernel
theorem dX10_span_68 : decode cX10_span 68 = .ok (.getfield 133, 3) := by decide +kernel
theorem dX10_span_71 : decode cX10_span 71 = .ok (.aload_n 0, 1) := by decide +kernel
theorem dX10_span_72 : decode cX10_span 72 = .ok (.getfield 10, 3) := by decide +kernel
theorem dX10_span_75 : decode cX10_span 75 = .ok (.getfield 58, 3) := by decide +kernel
theorem dX10_span_78 : decode cX10_span 78 = .ok (.iload_n 1, 1) := by decide +kernel
theorem dX10_span_79 : decode cX10_span 79 = .ok (.invokevirtual 153, 3) := by decide +kernel
theorem dX10_span_82 : decode cX10_span 82 = .ok (.ifCond .eq 7, 3) := by decide +kernel
theorem dX10_span_85 : decode cX10_span 85 = .ok (.iconst 1, 1) := by decide +kernel
theorem dX10_span_86 : decode cX10_span 86 = .ok (.goto 4, 3) := by decide +kernel
theorem dX10_span_89 : decode cX10_span 89 = .ok (.iconst 0, 1) := by decide +kernel
theorem dX10_span_90 : decode cX10_span 90 = .ok (.ireturn, 1) := by decide +kernel
theorem dX10_span_91 : decode cX10_span 91 = .ok (.iconst (-1), 1) := by decide +kernel
theorem dX10_span_92 : decode cX10_span 92 = .ok (.ireturn, 1) := by decide +kernel
theorem dX10_by_0 : decode cX10_by 0 = .ok (.iload_n 2, 1) := by decide +kernel
theorem dX10_by_1 : decode cX10_by 1 = .ok (.invokestatic 157, 3) := by decide +kernel
theorem dX10_by_4 : decode cX10_by 4 = .ok (.ifCond .eq 18, 3) := by decide +kernel
theorem dX10_by_7 : decode cX10_by 7 = .ok (.aload_n 0, 1) := by decide +kernel
theorem dX10_by_8 : decode cX10_by 8 = .ok (.getfield 36, 3) := by decide +kernel
theorem dX10_by_11 : decode cX10_by 11 = .ok (.aload_n 0, 1) := by decide +kernel
theorem dX10_by_12 : decode cX10_by 12 = .ok (.getfield 10, 3) := by decide +kernel
theorem dX10_by_15 : decode cX10_by 15 = .ok (.iload_n 1, 1) := by decide +kernel
theorem dX10_by_16 : decode cX10_by 16 = .ok (.invokevirtual 143, 3) := by decide +kernel
theorem dX10_by_19 : decode cX10_by 19 = .ok (.ifCond .ne 5, 3) := by decide +kernel
theorem dX10_by_22 : decode cX10_by 22 = .ok (.iconst (-1), 1) := by decide +kernel
theorem dX10_by_23 : decode cX10_by 23 = .ok (.ireturn, 1) := by decide +kernel
theorem dX10_by_24 : decode cX10_by 24 = .ok (.iload_n 3, 1) := by decide +kernel
theorem dX10_by_25 : decode cX10_by 25 = .ok (.tableswitch 79 0 3 #[31, 41, 59, 69], 31) := by decide +kernel
theorem dX10_by_56 : decode cX10_by 56 = .ok (.aload_n 0, 1) := by decide +kernel
theorem dX10_by_57 : decode cX10_by 57 = .ok (.getfield 36, 3) := by decide +kernel
theorem dX10_by_60 : decode cX10_by 60 = .ok (.iconst 0, 1) := by decide +kernel
theorem dX10_by_61 : decode cX10_by 61 = .ok (.iload_n 2, 1) := by decide +kernel
theorem dX10_by_62 : decode cX10_by 62 = .ok (.invokevirtual 160, 3) := by decide +kernel
theorem dX10_by_65 : decode cX10_by 65 = .ok (.ireturn, 1) := by decide +kernel
theorem dX10_by_66 : decode cX10_by 66 = .ok (.aload_n 0, 1) := by decide +kernel
theorem dX10_by_67 : decode cX10_by 67 = .ok (.getfield 36, 3) := by decide +kernel
theorem dX10_by_70 : decode cX10_by 70 = .ok (.iconst 0, 1) := by decide +kernel
theorem dX10_by_71 : decode cX10_by 71 = .ok (.iload_n 2, 1) := by decide +kernel
theorem dX10_by_72 : decode cX10_by 72 = .ok (.invokevirtual 163, 3) := by decide +kernel
theorem dX10_by_75 : decode cX10_by 75 = .ok (.ifCond .eq 7, 3) := by decide +kernel
theorem dX10_by_78 : decode cX10_by 78 = .ok (.iconst 1, 1) := by decide +kernel
theorem dX10_by_79 : decode cX10_by 79 = .ok (.goto 4, 3) := by decide +kernel
theorem dX10_by_82 : decode cX10_by 82 = .ok (.iconst 0, 1) := by decide +kernel
theorem dX10_by_83 : decode cX10_by 83 = .ok (.ireturn, 1) := by decide +kernel
theorem dX10_by_84 : decode cX10_by 84 = .ok (.aload_n 0, 1) := by decide +kernel
theorem dX10_by_85 : decode cX10_by 85 = .ok (.getfield 36, 3) := by decide +kernel
theorem dX10_by_88 : decode cX10_by 88 = .ok (.iconst 0, 1) := by decide +kernel
theorem dX10_by_89 : decode cX10_by 89 = .ok (.iload_n 2, 1) := by decide +kernel
theorem dX10_by_90 : decode cX10_by 90 = .ok (.invokevirtual 167, 3) := by decide +kernel
theorem dX10_by_93 : decode cX10_by 93 = .ok (.ireturn, 1) := by decide +kernel
theorem dX10_by_94 : decode cX10_by 94 = .ok (.aload_n 0, 1) := by decide +kernel
theorem dX10_by_95 : decode cX10_by 95 = .ok (.getfield 36, 3) := by decide +kernel
theorem dX10_by_98 : decode cX10_by 98 = .ok (.iconst 0, 1) := by decide +kernel
theorem dX10_by_99 : decode cX10_by 99 = .ok (.iload_n 2, 1) := by decide +kernel
theorem dX10_by_100 : decode cX10_by 100 = .ok (.invokevirtual 170, 3) := by decide +kernel
theorem dX10_by_103 : decode cX10_by 103 = .ok (.ireturn, 1) := by decide +kernel
theorem dX10_by_104 : decode cX10_by 104 = .ok (.iconst (-1), 1) := by decide +kernel
theorem dX10_by_105 : decode cX10_by 105 = .ok (.ireturn, 1) := by decide +kernel
theorem dX10_score_0 : decode cX10_score 0 = .ok (.iload_n 1, 1) := by decide +kernel
theorem dX10_score_1 : decode cX10_score 1 = .ok (.invokestatic 157, 3) := by decide +kernel
theorem dX10_score_4 : decode cX10_score 4 = .ok (.ifCond .ne 6, 3) := by decide +kernel
theorem dX10_score_7 : decode cX10_score 7 = .ok (.ldc 173, 2) := by decide +kernel
theorem dX10_score_9 : decode cX10_score 9 = .ok (.ireturn, 1) := by decide +kernel
theorem dX10_score_10 : decode cX10_score 10 = .ok (.aload_n 0, 1) := by decide +kernel
theorem dX10_score_11 : decode cX10_score 11 = .ok (.getfield 36, 3) := by decide +kernel
theorem dX10_score_14 : decode cX10_score 14 = .ok (.aload_n 0, 1) := by decide +kernel
theorem dX10_score_15 : decode cX10_score 15 = .ok (.getfield 10, 3) := by decide +kernel
theorem dX10_score_18 : decode cX10_score 18 = .ok (.iconst 0, 1) := by decide +kernel
theorem dX10_score_19 : decode cX10_score 19 = .ok (.iconst 0, 1) := by decide +kernel
theorem dX10_score_20 : decode cX10_score 20 = .ok (.invokevirtual 174, 3) := by decide +kernel
theorem dX10_score_23 : decode cX10_score 23 = .ok (.pop, 1) := by decide +kernel
theorem dX10_score_24 : decode cX10_score 24 = .ok (.aload_n 0, 1) := by decide +kernel
theorem dX10_score_25 : decode cX10_score 25 = .ok (.getfield 36, 3) := by decide +kernel
theorem dX10_score_28 : decode cX10_score 28 = .ok (.iload_n 1, 1) := by decide +kernel
theorem dX10_score_29 : decode cX10_score 29 = .ok (.invokevirtual 178, 3) := by decide +kernel
theorem dX10_score_32 : decode cX10_score 32 = .ok (.ireturn, 1) := by decide +kernel
theorem dX10_best_0 : decode cX10_best 0 = .ok (.iload_n 1, 1) := by decide +kernel
theorem dX10_best_1 : decode cX10_best 1 = .ok (.iload_n 2, 1) := by decide +kernel
theorem dX10_best_2 : decode cX10_best 2 = .ok (.sipush 300, 3) := by decide +kernel
theorem dX10_best_5 : decode cX10_best 5 = .ok (.invokestatic 182, 3) := by decide +kernel
theorem dX10_best_8 : decode cX10_best 8 = .ok (.ifCond .eq 14, 3) := by decide +kernel
theorem dX10_best_11 : decode cX10_best 11 = .ok (.aload_n 0, 1) := by decide +kernel
theorem dX10_best_12 : decode cX10_best 12 = .ok (.iconst 0, 1) := by decide +kernel
theorem dX10_best_13 : decode cX10_best 13 = .ok (.iconst 0, 1) := by decide +kernel
theorem dX10_best_14 : decode cX10_best 14 = .ok (.iload_n 1, 1) := by decide +kernel
theorem dX10_best_15 : decode cX10_best 15 = .ok (.iload_n 2, 1) := by decide +kernel
theorem dX10_best_16 : decode cX10_best 16 = .ok (.invokevirtual 185, 3) := by decide +kernel
theorem dX10_best_19 : decode cX10_best 19 = .ok (.goto 4, 3) := by decide +kernel
theorem dX10_best_22 : decode cX10_best 22 = .ok (.iconst (-1), 1) := by decide +kernel
theorem dX10_best_23 : decode cX10_best 23 = .ok (.ireturn, 1) := by decide +kernel
theorem dX10_peak_0 : decode cX10_peak 0 = .ok (.iload_n 1, 1) := by decide +kernel
theorem dX10_peak_1 : decode cX10_peak 1 = .ok (.iload_n 2, 1) := by decide +kernel
theorem dX10_peak_2 : decode cX10_peak 2 = .ok (.sipush 300, 3) := by decide +kernel
theorem dX10_peak_5 : decode cX10_peak 5 = .ok (.invokestatic 182, 3) := by decide +kernel
theorem dX10_peak_8 : decode cX10_peak 8 = .ok (.ifCond .eq 19, 3) := by decide +kernel
theorem dX10_peak_11 : decode cX10_peak 11 = .ok (.aload_n 0, 1) := by decide +kernel
theorem dX10_peak_12 : decode cX10_peak 12 = .ok (.getfield 36, 3) := by decide +kernel
theorem dX10_peak_15 : decode cX10_peak 15 = .ok (.aload_n 0, 1) := by decide +kernel
theorem dX10_peak_16 : decode cX10_peak 16 = .ok (.getfield 10, 3) := by decide +kernel
theorem dX10_peak_19 : decode cX10_peak 19 = .ok (.iconst 0, 1) := by decide +kernel
theorem dX10_peak_20 : decode cX10_peak 20 = .ok (.iconst 0, 1) := by decide +kernel
theorem dX10_peak_21 : decode cX10_peak 21 = .ok (.invokevirtual 174, 3) := by decide +kernel
theorem dX10_peak_24 : decode cX10_peak 24 = .ok (.ifCond .ne 5, 3) := by decide +kernel
theorem dX10_peak_27 : decode cX10_peak 27 = .ok (.iconst (-1), 1) := by decide +kernel
theorem dX10_peak_28 : decode cX10_peak 28 = .ok (.ireturn, 1) := by decide +kernel
theorem dX10_peak_29 : decode cX10_peak 29 = .ok (.aload_n 0, 1) := by decide +kernel
theorem dX10_peak_30 : decode cX10_peak 30 = .ok (.getfield 43, 3) := by decide +kernel
theorem dX10_peak_33 : decode cX10_peak 33 = .ok (.aload_n 0, 1) := by decide +kernel
theorem dX10_peak_34 : decode cX10_peak 34 = .ok (.getfield 36, 3) := by decide +kernel
theorem dX10_peak_37 : decode cX10_peak 37 = .ok (.iload_n 1, 1) := by decide +kernel
theorem dX10_peak_38 : decode cX10_peak 38 = .ok (.iload_n 2, 1) := by decide +kernel
theorem dX10_peak_39 : decode cX10_peak 39 = .ok (.invokevirtual 189, 3) := by decide +kernel
theorem dX10_peak_42 : decode cX10_peak 42 = .ok (.aload_n 0, 1) := by decide +kernel
theorem dX10_peak_43 : decode cX10_peak 43 = .ok (.getfield 43, 3) := by decide +kernel
theorem dX10_peak_46 : decode cX10_peak 46 = .ok (.iload_n 3, 1) := by decide +kernel
theorem dX10_peak_47 : decode cX10_peak 47 = .ok (.invokevirtual 193, 3) := by decide +kernel
theorem dX10_peak_50 : decode cX10_peak 50 = .ok (.ireturn, 1) := by decide +kernel
theorem dX10_pair_0 : decode cX10_pair 0 = .ok (.iload_n 1, 1) := by decide +kernel
theorem dX10_pair_1 : decode cX10_pair 1 = .ok (.iload_n 2, 1) := by decide +kernel
theorem dX10_pair_2 : decode cX10_pair 2 = .ok (.bipush 40, 2) := by decide +kernel
theorem dX10_pair_4 : decode cX10_pair 4 = .ok (.invokestatic 182, 3) := by decide +kernel
theorem dX10_pair_7 : decode cX10_pair 7 = .ok (.ifCond .eq 24, 3) := by decide +kernel
theorem dX10_pair_10 : decode cX10_pair 10 = .ok (.iload_n 1, 1) := by decide +kernel
theorem dX10_pair_11 : decode cX10_pair 11 = .ok (.iload_n 2, 1) := by decide +kernel
theorem dX10_pair_12 : decode cX10_pair 12 = .ok (.if_icmp .eq 19, 3) := by decide +kernel
theorem dX10_pair_15 : decode cX10_pair 15 = .ok (.aload_n 0, 1) := by decide +kernel
theorem dX10_pair_16 : decode cX10_pair 16 = .ok (.getfield 36, 3) := by decide +kernel
theorem dX10_pair_19 : decode cX10_pair 19 = .ok (.aload_n 0, 1) := by decide +kernel
theorem dX10_pair_20 : decode cX10_pair 20 = .ok (.getfield 10, 3) := by decide +kernel
theorem dX10_pair_23 : decode cX10_pair 23 = .ok (.iconst 0, 1) := by decide +kernel
theorem dX10_pair_24 : decode cX10_pair 24 = .ok (.iconst 0, 1) := by decide +kernel
theorem dX10_pair_25 : decode cX10_pair 25 = .ok (.invokevirtual 174, 3) := by decide +kernel
theorem dX10_pair_28 : decode cX10_pair 28 = .ok (.ifCond .ne 5, 3) := by decide +kernel
theorem dX10_pair_31 : decode cX10_pair 31 = .ok (.iconst (-1), 1) := by decide +kernel
theorem dX10_pair_32 : decode cX10_pair 32 = .ok (.ireturn, 1) := by decide +kernel
theorem dX10_pair_33 : decode cX10_pair 33 = .ok (.aload_n 0, 1) := by decide +kernel
theorem dX10_pair_34 : decode cX10_pair 34 = .ok (.getfield 43, 3) := by decide +kernel
theorem dX10_pair_37 : decode cX10_pair 37 = .ok (.aload_n 0, 1) := by decide +kernel
theorem dX10_pair_38 : decode cX10_pair 38 = .ok (.getfield 36, 3) := by decide +kernel
theorem dX10_pair_41 : decode cX10_pair 41 = .ok (.iload_n 1, 1) := by decide +kernel
theorem dX10_pair_42 : decode cX10_pair 42 = .ok (.iload_n 2, 1) := by decide +kernel
theorem dX10_pair_43 : decode cX10_pair 43 = .ok (.invokevirtual 196, 3) := by decide +kernel
theorem dX10_pair_46 : decode cX10_pair 46 = .ok (.ireturn, 1) := by decide +kernel
theorem dX10_sum_0 : decode cX10_sum 0 = .ok (.iload_n 1, 1) := by decide +kernel
theorem dX10_sum_1 : decode cX10_sum 1 = .ok (.invokestatic 157, 3) := by decide +kernel
theorem dX10_sum_4 : decode cX10_sum 4 = .ok (.ifCond .eq 15, 3) := by decide +kernel
theorem dX10_sum_7 : decode cX10_sum 7 = .ok (.iload_n 2, 1) := by decide +kernel
theorem dX10_sum_8 : decode cX10_sum 8 = .ok (.invokestatic 157, 3) := by decide +kernel
theorem dX10_sum_11 : decode cX10_sum 11 = .ok (.ifCond .eq 8, 3) := by decide +kernel
theorem dX10_sum_14 : decode cX10_sum 14 = .ok (.iload_n 1, 1) := by decide +kernel
theorem dX10_sum_15 : decode cX10_sum 15 = .ok (.iload_n 2, 1) := by decide +kernel
theorem dX10_sum_16 : decode cX10_sum 16 = .ok (.if_icmp .lt 7, 3) := by decide +kernel
theorem dX10_sum_19 : decode cX10_sum 19 = .ok (.ldc2_w 200, 3) := by decide +kernel
theorem dX10_sum_22 : decode cX10_sum 22 = .ok (.lreturn, 1) := by decide +kernel
theorem dX10_sum_23 : decode cX10_sum 23 = .ok (.aload_n 0, 1) := by decide +kernel
theorem dX10_sum_24 : decode cX10_sum 24 = .ok (.getfield 36, 3) := by decide +kernel
theorem dX10_sum_27 : decode cX10_sum 27 = .ok (.aload_n 0, 1) := by decide +kernel
theorem dX10_sum_28 : decode cX10_sum 28 = .ok (.getfield 10, 3) := by decide +kernel
theorem dX10_sum_31 : decode cX10_sum 31 = .ok (.iconst 0, 1) := by decide +kernel
theorem dX10_sum_32 : decode cX10_sum 32 = .ok (.iconst 0, 1) := by decide +kernel
theorem dX10_sum_33 : decode cX10_sum 33 = .ok (.invokevirtual 174, 3) := by decide +kernel
theorem dX10_sum_36 : decode cX10_sum 36 = .ok (.pop, 1) := by decide +kernel
theorem dX10_sum_37 : decode cX10_sum 37 = .ok (.aload_n 0, 1) := by decide +kernel
theorem dX10_sum_38 : decode cX10_sum 38 = .ok (.getfield 43, 3) := by decide +kernel
theorem dX10_sum_41 : decode cX10_sum 41 = .ok (.aload_n 0, 1) := by decide +kernel
theorem dX10_sum_42 : decode cX10_sum 42 = .ok (.getfield 36, 3) := by decide +kernel
theorem dX10_sum_45 : decode cX10_sum 45 = .ok (.iload_n 1, 1) := by decide +kernel
theorem dX10_sum_46 : decode cX10_sum 46 = .ok (.iload_n 2, 1) := by decide +kernel
theorem dX10_sum_47 : decode cX10_sum 47 = .ok (.invokevirtual 202, 3) := by decide +kernel
theorem dX10_sum_50 : decode cX10_sum 50 = .ok (.lreturn, 1) := by decide +kernel
theorem dX10_chance_0 : decode cX10_chance 0 = .ok (.iload_n 1, 1) := by decide +kernel
theorem dX10_chance_1 : decode cX10_chance 1 = .ok (.invokestatic 157, 3) := by decide +kernel
theorem dX10_chance_4 : decode cX10_chance 4 = .ok (.ifCond .ne 5, 3) := by decide +kernel
theorem dX10_chance_7 : decode cX10_chance 7 = .ok (.iconst (-1), 1) := by decide +kernel
theorem dX10_chance_8 : decode cX10_chance 8 = .ok (.ireturn, 1) := by decide +kernel
theorem dX10_chance_9 : decode cX10_chance 9 = .ok (.aload_n 0, 1) := by decide +kernel
theorem dX10_chance_10 : decode cX10_chance 10 = .ok (.getfield 36, 3) := by decide +kernel
theorem dX10_chance_13 : decode cX10_chance 13 = .ok (.aload_n 0, 1) := by decide +kernel
theorem dX10_chance_14 : decode cX10_chance 14 = .ok (.getfield 10, 3) := by decide +kernel
theorem dX10_chance_17 : decode cX10_chance 17 = .ok (.iconst 0, 1) := by decide +kernel
theorem dX10_chance_18 : decode cX10_chance 18 = .ok (.iconst 0, 1) := by decide +kernel
theorem dX10_chance_19 : decode cX10_chance 19 = .ok (.invokevirtual 174, 3) := by decide +kernel
theorem dX10_chance_22 : decode cX10_chance 22 = .ok (.pop, 1) := by decide +kernel
theorem dX10_chance_23 : decode cX10_chance 23 = .ok (.aload_n 0, 1) := by decide +kernel
theorem dX10_chance_24 : decode cX10_chance 24 = .ok (.getfield 50, 3) := by decide +kernel
theorem dX10_chance_27 : decode cX10_chance 27 = .ok (.aload_n 0, 1) := by decide +kernel
theorem dX10_chance_28 : decode cX10_chance 28 = .ok (.getfield 36, 3) := by decide +kernel
theorem dX10_chance_31 : decode cX10_chance 31 = .ok (.iload_n 1, 1) := by decide +kernel
theorem dX10_chance_32 : decode cX10_chance 32 = .ok (.aload_n 0, 1) := by decide +kernel
theorem dX10_chance_33 : decode cX10_chance 33 = .ok (.getfield 36, 3) := by decide +kernel
theorem dX10_chance_36 : decode cX10_chance 36 = .ok (.iload_n 1, 1) := by decide +kernel
theorem dX10_chance_37 : decode cX10_chance 37 = .ok (.invokevirtual 206, 3) := by decide +kernel
theorem dX10_chance_40 : decode cX10_chance 40 = .ok (.invokevirtual 209, 3) := by decide +kernel
theorem dX10_chance_43 : decode cX10_chance 43 = .ok (.ireturn, 1) := by decide +kernel
theorem dX10_verdict_0 : decode cX10_verdict 0 = .ok (.iload_n 2, 1) := by decide +kernel
theorem dX10_verdict_1 : decode cX10_verdict 1 = .ok (.iload_n 3, 1) := by decide +kernel
theorem dX10_verdict_2 : decode cX10_verdict 2 = .ok (.sipush 300, 3) := by decide +kernel
theorem dX10_verdict_5 : decode cX10_verdict 5 = .ok (.invokestatic 182, 3) := by decide +kernel
theorem dX10_verdict_8 : decode cX10_verdict 8 = .ok (.ifCond .eq 13, 3) := by decide +kernel
theorem dX10_verdict_11 : decode cX10_verdict 11 = .ok (.iload_n 1, 1) := by decide +kernel
theorem dX10_verdict_12 : decode cX10_verdict 12 = .ok (.iload_n 2, 1) := by decide +kernel
theorem dX10_verdict_13 : decode cX10_verdict 13 = .ok (.if_icmp .lt 8, 3) := by decide +kernel
theorem dX10_verdict_16 : decode cX10_verdict 16 = .ok (.iload_n 1, 1) := by decide +kernel
theorem dX10_verdict_17 : decode cX10_verdict 17 = .ok (.iload_n 3, 1) := by decide +kernel
theorem dX10_verdict_18 : decode cX10_verdict 18 = .ok (.if_icmp .le 5, 3) := by decide +kernel
theorem dX10_verdict_21 : decode cX10_verdict 21 = .ok (.iconst (-1), 1) := by decide +kernel
theorem dX10_verdict_22 : decode cX10_verdict 22 = .ok (.ireturn, 1) := by decide +kernel
theorem dX10_verdict_23 : decode cX10_verdict 23 = .ok (.aload_n 0, 1) := by decide +kernel
theorem dX10_verdict_24 : decode cX10_verdict 24 = .ok (.getfield 36, 3) := by decide +kernel
theorem dX10_verdict_27 : decode cX10_verdict 27 = .ok (.aload_n 0, 1) := by decide +kernel
theorem dX10_verdict_28 : decode cX10_verdict 28 = .ok (.getfield 10, 3) := by decide +kernel
theorem dX10_verdict_31 : decode cX10_verdict 31 = .ok (.iconst 0, 1) := by decide +kernel
theorem dX10_verdict_32 : decode cX10_verdict 32 = .ok (.iconst 0, 1) := by decide +kernel
theorem dX10_verdict_33 : decode cX10_verdict 33 = .ok (.invokevirtual 174, 3) := by decide +kernel
theorem dX10_verdict_36 : decode cX10_verdict 36 = .ok (.pop, 1) := by decide +kernel
theorem dX10_verdict_37 : decode cX10_verdict 37 = .ok (.aload_n 0, 1) := by decide +kernel
theorem dX10_verdict_38 : decode cX10_verdict 38 = .ok (.getfield 43, 3) := by decide +kernel
theorem dX10_verdict_41 : decode cX10_verdict 41 = .ok (.aload_n 0, 1) := by decide +kernel
theorem dX10_verdict_42 : decode cX10_verdict 42 = .ok (.getfield 36, 3) := by decide +kernel
theorem dX10_verdict_45 : decode cX10_verdict 45 = .ok (.iload_n 2, 1) := by decide +kernel
theorem dX10_verdict_46 : decode cX10_verdict 46 = .ok (.iload_n 3, 1) := by decide +kernel
theorem dX10_verdict_47 : decode cX10_verdict 47 = .ok (.invokevirtual 189, 3) := by decide +kernel
theorem dX10_verdict_50 : decode cX10_verdict 50 = .ok (.aload_n 0, 1) := by decide +kernel
theorem dX10_verdict_51 : decode cX10_verdict 51 = .ok (.iload_n 1, 1) := by decide +kernel
theorem dX10_verdict_52 : decode cX10_verdict 52 = .ok (.iload_n 3, 1) := by decide +kernel
theorem dX10_verdict_53 : decode cX10_verdict 53 = .ok (.iload_n 2, 1) := by decide +kernel
theorem dX10_verdict_54 : decode cX10_verdict 54 = .ok (.isub, 1) := by decide +kernel
theorem dX10_verdict_55 : decode cX10_verdict 55 = .ok (.iconst 1, 1) := by decide +kernel
theorem dX10_verdict_56 : decode cX10_verdict 56 = .ok (.iadd, 1) := by decide +kernel
theorem dX10_verdict_57 : decode cX10_verdict 57 = .ok (.invokevirtual 212, 3) := by decide +kernel
theorem dX10_verdict_60 : decode cX10_verdict 60 = .ok (.aload_n 0, 1) := by decide +kernel
theorem dX10_verdict_61 : decode cX10_verdict 61 = .ok (.getfield 10, 3) := by decide +kernel
theorem dX10_verdict_64 : decode cX10_verdict 64 = .ok (.getfield 114, 3) := by decide +kernel
theorem dX10_verdict_67 : decode cX10_verdict 67 = .ok (.astore 4, 2) := by decide +kernel
theorem dX10_verdict_69 : decode cX10_verdict 69 = .ok (.iconst 0, 1) := by decide +kernel
theorem dX10_verdict_70 : decode cX10_verdict 70 = .ok (.istore 5, 2) := by decide +kernel
theorem dX10_verdict_72 : decode cX10_verdict 72 = .ok (.iload 5, 2) := by decide +kernel
end
section
theorem dX10_verdict_74 : decode cX10_verdict 74 = .ok (.aload 4, 2) := by decide +kernel
theorem dX10_verdict_76 : decode cX10_verdict 76 = .ok (.getfield 130, 3) := by decide +kernel
theorem dX10_verdict_79 : decode cX10_verdict 79 = .ok (.if_icmp .ge 31, 3) := by decide +kernel
theorem dX10_verdict_82 : decode cX10_verdict 82 = .ok (.aload 4, 2) := by decide +kernel
theorem dX10_verdict_84 : decode cX10_verdict 84 = .ok (.iload 5, 2) := by decide +kernel
theorem dX10_verdict_86 : decode cX10_verdict 86 = .ok (.aload_n 0, 1) := by decide +kernel
theorem dX10_verdict_87 : decode cX10_verdict 87 = .ok (.getfield 54, 3) := by decide +kernel
theorem dX10_verdict_90 : decode cX10_verdict 90 = .ok (.invokevirtual 216, 3) := by decide +kernel
theorem dX10_verdict_93 : decode cX10_verdict 93 = .ok (.ifCond .eq 11, 3) := by decide +kernel
theorem dX10_verdict_96 : decode cX10_verdict 96 = .ok (.aload 4, 2) := by decide +kernel
theorem dX10_verdict_98 : decode cX10_verdict 98 = .ok (.iload 5, 2) := by decide +kernel
theorem dX10_verdict_100 : decode cX10_verdict 100 = .ok (.invokevirtual 220, 3) := by decide +kernel
theorem dX10_verdict_103 : decode cX10_verdict 103 = .ok (.ireturn, 1) := by decide +kernel
theorem dX10_verdict_104 : decode cX10_verdict 104 = .ok (.iinc 5 1, 3) := by decide +kernel
theorem dX10_verdict_107 : decode cX10_verdict 107 = .ok (.goto (-35), 3) := by decide +kernel
theorem dX10_verdict_110 : decode cX10_verdict 110 = .ok (.iconst 2, 1) := by decide +kernel
theorem dX10_verdict_111 : decode cX10_verdict 111 = .ok (.ireturn, 1) := by decide +kernel
theorem dX10_set_0 : decode cX10_set 0 = .ok (.iload_n 1, 1) := by decide +kernel
theorem dX10_set_1 : decode cX10_set 1 = .ok (.iconst 1, 1) := by decide +kernel
theorem dX10_set_2 : decode cX10_set 2 = .ok (.if_icmp .lt 16, 3) := by decide +kernel
theorem dX10_set_5 : decode cX10_set 5 = .ok (.iload_n 1, 1) := by decide +kernel
theorem dX10_set_6 : decode cX10_set 6 = .ok (.bipush 8, 2) := by decide +kernel
theorem dX10_set_8 : decode cX10_set 8 = .ok (.if_icmp .gt 10, 3) := by decide +kernel
theorem dX10_set_11 : decode cX10_set 11 = .ok (.iload_n 2, 1) := by decide +kernel
theorem dX10_set_12 : decode cX10_set 12 = .ok (.invokestatic 157, 3) := by decide +kernel
theorem dX10_set_15 : decode cX10_set 15 = .ok (.ifCond .ne 5, 3) := by decide +kernel
theorem dX10_set_18 : decode cX10_set 18 = .ok (.iconst (-1), 1) := by decide +kernel
theorem dX10_set_19 : decode cX10_set 19 = .ok (.ireturn, 1) := by decide +kernel
theorem dX10_set_20 : decode cX10_set 20 = .ok (.aload_n 0, 1) := by decide +kernel
theorem dX10_set_21 : decode cX10_set 21 = .ok (.getfield 36, 3) := by decide +kernel
theorem dX10_set_24 : decode cX10_set 24 = .ok (.aload_n 0, 1) := by decide +kernel
theorem dX10_set_25 : decode cX10_set 25 = .ok (.getfield 10, 3) := by decide +kernel
theorem dX10_set_28 : decode cX10_set 28 = .ok (.iconst 5, 1) := by decide +kernel
theorem dX10_set_29 : decode cX10_set 29 = .ok (.iload_n 1, 1) := by decide +kernel
theorem dX10_set_30 : decode cX10_set 30 = .ok (.invokevirtual 174, 3) := by decide +kernel
theorem dX10_set_33 : decode cX10_set 33 = .ok (.pop, 1) := by decide +kernel
theorem dX10_set_34 : decode cX10_set 34 = .ok (.iload_n 3, 1) := by decide +kernel
theorem dX10_set_35 : decode cX10_set 35 = .ok (.tableswitch 64 0 3 #[29, 37, 46, 55], 29) := by decide +kernel
theorem dX10_set_64 : decode cX10_set 64 = .ok (.aload_n 0, 1) := by decide +kernel
theorem dX10_set_65 : decode cX10_set 65 = .ok (.getfield 36, 3) := by decide +kernel
theorem dX10_set_68 : decode cX10_set 68 = .ok (.getfield 223, 3) := by decide +kernel
theorem dX10_set_71 : decode cX10_set 71 = .ok (.ireturn, 1) := by decide +kernel
theorem dX10_set_72 : decode cX10_set 72 = .ok (.aload_n 0, 1) := by decide +kernel
theorem dX10_set_73 : decode cX10_set 73 = .ok (.getfield 36, 3) := by decide +kernel
theorem dX10_set_76 : decode cX10_set 76 = .ok (.iload_n 2, 1) := by decide +kernel
theorem dX10_set_77 : decode cX10_set 77 = .ok (.invokevirtual 226, 3) := by decide +kernel
theorem dX10_set_80 : decode cX10_set 80 = .ok (.ireturn, 1) := by decide +kernel
theorem dX10_set_81 : decode cX10_set 81 = .ok (.aload_n 0, 1) := by decide +kernel
theorem dX10_set_82 : decode cX10_set 82 = .ok (.getfield 36, 3) := by decide +kernel
theorem dX10_set_85 : decode cX10_set 85 = .ok (.iload_n 2, 1) := by decide +kernel
theorem dX10_set_86 : decode cX10_set 86 = .ok (.invokevirtual 229, 3) := by decide +kernel
theorem dX10_set_89 : decode cX10_set 89 = .ok (.ireturn, 1) := by decide +kernel
theorem dX10_set_90 : decode cX10_set 90 = .ok (.aload_n 0, 1) := by decide +kernel
theorem dX10_set_91 : decode cX10_set 91 = .ok (.getfield 36, 3) := by decide +kernel
theorem dX10_set_94 : decode cX10_set 94 = .ok (.iload_n 2, 1) := by decide +kernel
theorem dX10_set_95 : decode cX10_set 95 = .ok (.invokevirtual 232, 3) := by decide +kernel
theorem dX10_set_98 : decode cX10_set 98 = .ok (.ireturn, 1) := by decide +kernel
theorem dX10_set_99 : decode cX10_set 99 = .ok (.iconst (-1), 1) := by decide +kernel
theorem dX10_set_100 : decode cX10_set 100 = .ok (.ireturn, 1) := by decide +kernel
theorem dX10_rate_0 : decode cX10_rate 0 = .ok (.iload_n 1, 1) := by decide +kernel
theorem dX10_rate_1 : decode cX10_rate 1 = .ok (.invokestatic 235, 3) := by decide +kernel
theorem dX10_rate_4 : decode cX10_rate 4 = .ok (.ifCond .eq 40, 3) := by decide +kernel
theorem dX10_rate_7 : decode cX10_rate 7 = .ok (.iload_n 2, 1) := by decide +kernel
theorem dX10_rate_8 : decode cX10_rate 8 = .ok (.invokestatic 235, 3) := by decide +kernel
theorem dX10_rate_11 : decode cX10_rate 11 = .ok (.ifCond .eq 33, 3) := by decide +kernel
theorem dX10_rate_14 : decode cX10_rate 14 = .ok (.iload_n 1, 1) := by decide +kernel
theorem dX10_rate_15 : decode cX10_rate 15 = .ok (.iload_n 2, 1) := by decide +kernel
theorem dX10_rate_16 : decode cX10_rate 16 = .ok (.if_icmp .eq 28, 3) := by decide +kernel
theorem dX10_rate_19 : decode cX10_rate 19 = .ok (.iload 5, 2) := by decide +kernel
theorem dX10_rate_21 : decode cX10_rate 21 = .ok (.ifCond .lt 23, 3) := by decide +kernel
theorem dX10_rate_24 : decode cX10_rate 24 = .ok (.iload 5, 2) := by decide +kernel
theorem dX10_rate_26 : decode cX10_rate 26 = .ok (.sipush 200, 3) := by decide +kernel
theorem dX10_rate_29 : decode cX10_rate 29 = .ok (.if_icmp .gt 15, 3) := by decide +kernel
theorem dX10_rate_32 : decode cX10_rate 32 = .ok (.iload_n 3, 1) := by decide +kernel
theorem dX10_rate_33 : decode cX10_rate 33 = .ok (.iload 4, 2) := by decide +kernel
theorem dX10_rate_35 : decode cX10_rate 35 = .ok (.sipush 300, 3) := by decide +kernel
theorem dX10_rate_38 : decode cX10_rate 38 = .ok (.invokestatic 182, 3) := by decide +kernel
theorem dX10_rate_41 : decode cX10_rate 41 = .ok (.ifCond .ne 5, 3) := by decide +kernel
theorem dX10_rate_44 : decode cX10_rate 44 = .ok (.iconst (-1), 1) := by decide +kernel
theorem dX10_rate_45 : decode cX10_rate 45 = .ok (.ireturn, 1) := by decide +kernel
theorem dX10_rate_46 : decode cX10_rate 46 = .ok (.aload_n 0, 1) := by decide +kernel
theorem dX10_rate_47 : decode cX10_rate 47 = .ok (.iconst 1, 1) := by decide +kernel
theorem dX10_rate_48 : decode cX10_rate 48 = .ok (.iload_n 1, 1) := by decide +kernel
theorem dX10_rate_49 : decode cX10_rate 49 = .ok (.iload_n 3, 1) := by decide +kernel
theorem dX10_rate_50 : decode cX10_rate 50 = .ok (.iload 4, 2) := by decide +kernel
theorem dX10_rate_52 : decode cX10_rate 52 = .ok (.invokevirtual 185, 3) := by decide +kernel
theorem dX10_rate_55 : decode cX10_rate 55 = .ok (.istore 6, 2) := by decide +kernel
theorem dX10_rate_57 : decode cX10_rate 57 = .ok (.aload_n 0, 1) := by decide +kernel
theorem dX10_rate_58 : decode cX10_rate 58 = .ok (.iconst 1, 1) := by decide +kernel
theorem dX10_rate_59 : decode cX10_rate 59 = .ok (.iload_n 2, 1) := by decide +kernel
theorem dX10_rate_60 : decode cX10_rate 60 = .ok (.iload_n 3, 1) := by decide +kernel
theorem dX10_rate_61 : decode cX10_rate 61 = .ok (.iload 4, 2) := by decide +kernel
theorem dX10_rate_63 : decode cX10_rate 63 = .ok (.invokevirtual 185, 3) := by decide +kernel
theorem dX10_rate_66 : decode cX10_rate 66 = .ok (.istore 7, 2) := by decide +kernel
theorem dX10_rate_68 : decode cX10_rate 68 = .ok (.iload 6, 2) := by decide +kernel
theorem dX10_rate_70 : decode cX10_rate 70 = .ok (.iconst (-1), 1) := by decide +kernel
theorem dX10_rate_71 : decode cX10_rate 71 = .ok (.if_icmp .eq 9, 3) := by decide +kernel
theorem dX10_rate_74 : decode cX10_rate 74 = .ok (.iload 7, 2) := by decide +kernel
theorem dX10_rate_76 : decode cX10_rate 76 = .ok (.iconst (-1), 1) := by decide +kernel
theorem dX10_rate_77 : decode cX10_rate 77 = .ok (.if_icmp .ne 7, 3) := by decide +kernel
theorem dX10_rate_80 : decode cX10_rate 80 = .ok (.iconst (-1), 1) := by decide +kernel
theorem dX10_rate_81 : decode cX10_rate 81 = .ok (.goto 12, 3) := by decide +kernel
theorem dX10_rate_84 : decode cX10_rate 84 = .ok (.iload 6, 2) := by decide +kernel
theorem dX10_rate_86 : decode cX10_rate 86 = .ok (.iload 7, 2) := by decide +kernel
theorem dX10_rate_88 : decode cX10_rate 88 = .ok (.iload 5, 2) := by decide +kernel
theorem dX10_rate_90 : decode cX10_rate 90 = .ok (.invokestatic 238, 3) := by decide +kernel
theorem dX10_rate_93 : decode cX10_rate 93 = .ok (.ireturn, 1) := by decide +kernel
theorem dX10_drift_0 : decode cX10_drift 0 = .ok (.iload_n 2, 1) := by decide +kernel
theorem dX10_drift_1 : decode cX10_drift 1 = .ok (.iload_n 3, 1) := by decide +kernel
theorem dX10_drift_2 : decode cX10_drift 2 = .ok (.sipush 300, 3) := by decide +kernel
theorem dX10_drift_5 : decode cX10_drift 5 = .ok (.invokestatic 182, 3) := by decide +kernel
theorem dX10_drift_8 : decode cX10_drift 8 = .ok (.ifCond .ne 6, 3) := by decide +kernel
theorem dX10_drift_11 : decode cX10_drift 11 = .ok (.ldc 241, 2) := by decide +kernel
theorem dX10_drift_13 : decode cX10_drift 13 = .ok (.ireturn, 1) := by decide +kernel
theorem dX10_drift_14 : decode cX10_drift 14 = .ok (.aload_n 0, 1) := by decide +kernel
theorem dX10_drift_15 : decode cX10_drift 15 = .ok (.iconst 2, 1) := by decide +kernel
theorem dX10_drift_16 : decode cX10_drift 16 = .ok (.iload_n 1, 1) := by decide +kernel
theorem dX10_drift_17 : decode cX10_drift 17 = .ok (.iload_n 2, 1) := by decide +kernel
theorem dX10_drift_18 : decode cX10_drift 18 = .ok (.iload_n 3, 1) := by decide +kernel
theorem dX10_drift_19 : decode cX10_drift 19 = .ok (.invokevirtual 185, 3) := by decide +kernel
theorem dX10_drift_22 : decode cX10_drift 22 = .ok (.istore 4, 2) := by decide +kernel
theorem dX10_drift_24 : decode cX10_drift 24 = .ok (.aload_n 0, 1) := by decide +kernel
theorem dX10_drift_25 : decode cX10_drift 25 = .ok (.iconst 3, 1) := by decide +kernel
theorem dX10_drift_26 : decode cX10_drift 26 = .ok (.iload_n 1, 1) := by decide +kernel
theorem dX10_drift_27 : decode cX10_drift 27 = .ok (.iload_n 2, 1) := by decide +kernel
theorem dX10_drift_28 : decode cX10_drift 28 = .ok (.iload_n 3, 1) := by decide +kernel
theorem dX10_drift_29 : decode cX10_drift 29 = .ok (.invokevirtual 185, 3) := by decide +kernel
theorem dX10_drift_32 : decode cX10_drift 32 = .ok (.istore 5, 2) := by decide +kernel
theorem dX10_drift_34 : decode cX10_drift 34 = .ok (.iload 4, 2) := by decide +kernel
theorem dX10_drift_36 : decode cX10_drift 36 = .ok (.iconst (-1), 1) := by decide +kernel
theorem dX10_drift_37 : decode cX10_drift 37 = .ok (.if_icmp .eq 9, 3) := by decide +kernel
theorem dX10_drift_40 : decode cX10_drift 40 = .ok (.iload 5, 2) := by decide +kernel
theorem dX10_drift_42 : decode cX10_drift 42 = .ok (.iconst (-1), 1) := by decide +kernel
theorem dX10_drift_43 : decode cX10_drift 43 = .ok (.if_icmp .ne 8, 3) := by decide +kernel
theorem dX10_drift_46 : decode cX10_drift 46 = .ok (.ldc 241, 2) := by decide +kernel
theorem dX10_drift_48 : decode cX10_drift 48 = .ok (.goto 8, 3) := by decide +kernel
theorem dX10_drift_51 : decode cX10_drift 51 = .ok (.iload 4, 2) := by decide +kernel
theorem dX10_drift_53 : decode cX10_drift 53 = .ok (.iload 5, 2) := by decide +kernel
theorem dX10_drift_55 : decode cX10_drift 55 = .ok (.isub, 1) := by decide +kernel
theorem dX10_drift_56 : decode cX10_drift 56 = .ok (.ireturn, 1) := by decide +kernel
theorem dX10_owner_0 : decode cX10_owner 0 = .ok (.iload_n 1, 1) := by decide +kernel
theorem dX10_owner_1 : decode cX10_owner 1 = .ok (.iconst 1, 1) := by decide +kernel
theorem dX10_owner_2 : decode cX10_owner 2 = .ok (.if_icmp .lt 16, 3) := by decide +kernel
theorem dX10_owner_5 : decode cX10_owner 5 = .ok (.iload_n 1, 1) := by decide +kernel
theorem dX10_owner_6 : decode cX10_owner 6 = .ok (.bipush 9, 2) := by decide +kernel
theorem dX10_owner_8 : decode cX10_owner 8 = .ok (.if_icmp .gt 10, 3) := by decide +kernel
theorem dX10_owner_11 : decode cX10_owner 11 = .ok (.iload_n 2, 1) := by decide +kernel
theorem dX10_owner_12 : decode cX10_owner 12 = .ok (.invokestatic 157, 3) := by decide +kernel
theorem dX10_owner_15 : decode cX10_owner 15 = .ok (.ifCond .ne 5, 3) := by decide +kernel
theorem dX10_owner_18 : decode cX10_owner 18 = .ok (.iconst (-1), 1) := by decide +kernel
theorem dX10_owner_19 : decode cX10_owner 19 = .ok (.ireturn, 1) := by decide +kernel
theorem dX10_owner_20 : decode cX10_owner 20 = .ok (.aload_n 0, 1) := by decide +kernel
theorem dX10_owner_21 : decode cX10_owner 21 = .ok (.getfield 36, 3) := by decide +kernel
theorem dX10_owner_24 : decode cX10_owner 24 = .ok (.aload_n 0, 1) := by decide +kernel
theorem dX10_owner_25 : decode cX10_owner 25 = .ok (.getfield 10, 3) := by decide +kernel
theorem dX10_owner_28 : decode cX10_owner 28 = .ok (.iconst 4, 1) := by decide +kernel
theorem dX10_owner_29 : decode cX10_owner 29 = .ok (.iload_n 1, 1) := by decide +kernel
theorem dX10_owner_30 : decode cX10_owner 30 = .ok (.invokevirtual 174, 3) := by decide +kernel
theorem dX10_owner_33 : decode cX10_owner 33 = .ok (.pop, 1) := by decide +kernel
theorem dX10_owner_34 : decode cX10_owner 34 = .ok (.iload_n 3, 1) := by decide +kernel
theorem dX10_owner_35 : decode cX10_owner 35 = .ok (.tableswitch 65 0 2 #[25, 33, 42], 25) := by decide +kernel
theorem dX10_owner_60 : decode cX10_owner 60 = .ok (.aload_n 0, 1) := by decide +kernel
theorem dX10_owner_61 : decode cX10_owner 61 = .ok (.getfield 36, 3) := by decide +kernel
theorem dX10_owner_64 : decode cX10_owner 64 = .ok (.getfield 223, 3) := by decide +kernel
theorem dX10_owner_67 : decode cX10_owner 67 = .ok (.ireturn, 1) := by decide +kernel
theorem dX10_owner_68 : decode cX10_owner 68 = .ok (.aload_n 0, 1) := by decide +kernel
theorem dX10_owner_69 : decode cX10_owner 69 = .ok (.getfield 36, 3) := by decide +kernel
theorem dX10_owner_72 : decode cX10_owner 72 = .ok (.iload_n 2, 1) := by decide +kernel
theorem dX10_owner_73 : decode cX10_owner 73 = .ok (.invokevirtual 242, 3) := by decide +kernel
theorem dX10_owner_76 : decode cX10_owner 76 = .ok (.ireturn, 1) := by decide +kernel
theorem dX10_owner_77 : decode cX10_owner 77 = .ok (.aload_n 0, 1) := by decide +kernel
theorem dX10_owner_78 : decode cX10_owner 78 = .ok (.getfield 50, 3) := by decide +kernel
theorem dX10_owner_81 : decode cX10_owner 81 = .ok (.aload_n 0, 1) := by decide +kernel
theorem dX10_owner_82 : decode cX10_owner 82 = .ok (.getfield 36, 3) := by decide +kernel
theorem dX10_owner_85 : decode cX10_owner 85 = .ok (.getfield 223, 3) := by decide +kernel
theorem dX10_owner_88 : decode cX10_owner 88 = .ok (.aload_n 0, 1) := by decide +kernel
theorem dX10_owner_89 : decode cX10_owner 89 = .ok (.getfield 36, 3) := by decide +kernel
theorem dX10_owner_92 : decode cX10_owner 92 = .ok (.iload_n 2, 1) := by decide +kernel
theorem dX10_owner_93 : decode cX10_owner 93 = .ok (.invokevirtual 242, 3) := by decide +kernel
theorem dX10_owner_96 : decode cX10_owner 96 = .ok (.invokevirtual 245, 3) := by decide +kernel
theorem dX10_owner_99 : decode cX10_owner 99 = .ok (.ireturn, 1) := by decide +kernel
theorem dX10_owner_100 : decode cX10_owner 100 = .ok (.iconst (-1), 1) := by decide +kernel
theorem dX10_owner_101 : decode cX10_owner 101 = .ok (.ireturn, 1) := by decide +kernel
theorem dX10_heap_0 : decode cX10_heap 0 = .ok (.iload_n 2, 1) := by decide +kernel
theorem dX10_heap_1 : decode cX10_heap 1 = .ok (.ifCond .lt 10, 3) := by decide +kernel
theorem dX10_heap_4 : decode cX10_heap 4 = .ok (.iload_n 2, 1) := by decide +kernel
theorem dX10_heap_5 : decode cX10_heap 5 = .ok (.sipush 500, 3) := by decide +kernel
theorem dX10_heap_8 : decode cX10_heap 8 = .ok (.if_icmp .le 5, 3) := by decide +kernel
theorem dX10_heap_11 : decode cX10_heap 11 = .ok (.iconst (-1), 1) := by decide +kernel
theorem dX10_heap_12 : decode cX10_heap 12 = .ok (.ireturn, 1) := by decide +kernel
theorem dX10_heap_13 : decode cX10_heap 13 = .ok (.aload_n 0, 1) := by decide +kernel
theorem dX10_heap_14 : decode cX10_heap 14 = .ok (.getfield 36, 3) := by decide +kernel
theorem dX10_heap_17 : decode cX10_heap 17 = .ok (.aload_n 0, 1) := by decide +kernel
theorem dX10_heap_18 : decode cX10_heap 18 = .ok (.getfield 10, 3) := by decide +kernel
theorem dX10_heap_21 : decode cX10_heap 21 = .ok (.iconst 0, 1) := by decide +kernel
theorem dX10_heap_22 : decode cX10_heap 22 = .ok (.iconst 0, 1) := by decide +kernel
theorem dX10_heap_23 : decode cX10_heap 23 = .ok (.invokevirtual 174, 3) := by decide +kernel
theorem dX10_heap_26 : decode cX10_heap 26 = .ok (.pop, 1) := by decide +kernel
theorem dX10_heap_27 : decode cX10_heap 27 = .ok (.aload_n 0, 1) := by decide +kernel
theorem dX10_heap_28 : decode cX10_heap 28 = .ok (.getfield 36, 3) := by decide +kernel
theorem dX10_heap_31 : decode cX10_heap 31 = .ok (.iload_n 1, 1) := by decide +kernel
theorem dX10_heap_32 : decode cX10_heap 32 = .ok (.invokevirtual 248, 3) := by decide +kernel
theorem dX10_heap_35 : decode cX10_heap 35 = .ok (.istore_n 3, 1) := by decide +kernel
theorem dX10_heap_36 : decode cX10_heap 36 = .ok (.iload_n 3, 1) := by decide +kernel
theorem dX10_heap_37 : decode cX10_heap 37 = .ok (.iconst (-1), 1) := by decide +kernel
theorem dX10_heap_38 : decode cX10_heap 38 = .ok (.if_icmp .ne 7, 3) := by decide +kernel
theorem dX10_heap_41 : decode cX10_heap 41 = .ok (.iconst (-1), 1) := by decide +kernel
theorem dX10_heap_42 : decode cX10_heap 42 = .ok (.goto 19, 3) := by decide +kernel
theorem dX10_heap_45 : decode cX10_heap 45 = .ok (.aload_n 0, 1) := by decide +kernel
theorem dX10_heap_46 : decode cX10_heap 46 = .ok (.getfield 36, 3) := by decide +kernel
theorem dX10_heap_49 : decode cX10_heap 49 = .ok (.aload_n 0, 1) := by decide +kernel
theorem dX10_heap_50 : decode cX10_heap 50 = .ok (.getfield 10, 3) := by decide +kernel
theorem dX10_heap_53 : decode cX10_heap 53 = .ok (.getfield 58, 3) := by decide +kernel
theorem dX10_heap_56 : decode cX10_heap 56 = .ok (.iload_n 3, 1) := by decide +kernel
theorem dX10_heap_57 : decode cX10_heap 57 = .ok (.iload_n 2, 1) := by decide +kernel
theorem dX10_heap_58 : decode cX10_heap 58 = .ok (.invokevirtual 251, 3) := by decide +kernel
theorem dX10_heap_61 : decode cX10_heap 61 = .ok (.ireturn, 1) := by decide +kernel
theorem dX10_anew_0 : decode cX10_anew 0 = .ok (.iload_n 1, 1) := by decide +kernel
theorem dX10_anew_1 : decode cX10_anew 1 = .ok (.iload_n 2, 1) := by decide +kernel
theorem dX10_anew_2 : decode cX10_anew 2 = .ok (.sipush 300, 3) := by decide +kernel
theorem dX10_anew_5 : decode cX10_anew 5 = .ok (.invokestatic 182, 3) := by decide +kernel
theorem dX10_anew_8 : decode cX10_anew 8 = .ok (.ifCond .eq 19, 3) := by decide +kernel
theorem dX10_anew_11 : decode cX10_anew 11 = .ok (.aload_n 0, 1) := by decide +kernel
theorem dX10_anew_12 : decode cX10_anew 12 = .ok (.getfield 36, 3) := by decide +kernel
theorem dX10_anew_15 : decode cX10_anew 15 = .ok (.aload_n 0, 1) := by decide +kernel
theorem dX10_anew_16 : decode cX10_anew 16 = .ok (.getfield 10, 3) := by decide +kernel
theorem dX10_anew_19 : decode cX10_anew 19 = .ok (.iconst 0, 1) := by decide +kernel
theorem dX10_anew_20 : decode cX10_anew 20 = .ok (.iconst 0, 1) := by decide +kernel
theorem dX10_anew_21 : decode cX10_anew 21 = .ok (.invokevirtual 174, 3) := by decide +kernel
theorem dX10_anew_24 : decode cX10_anew 24 = .ok (.ifCond .ne 5, 3) := by decide +kernel
theorem dX10_anew_27 : decode cX10_anew 27 = .ok (.iconst (-1), 1) := by decide +kernel
theorem dX10_anew_28 : decode cX10_anew 28 = .ok (.ireturn, 1) := by decide +kernel
theorem dX10_anew_29 : decode cX10_anew 29 = .ok (.aload_n 0, 1) := by decide +kernel
theorem dX10_anew_30 : decode cX10_anew 30 = .ok (.getfield 43, 3) := by decide +kernel
theorem dX10_anew_33 : decode cX10_anew 33 = .ok (.aload_n 0, 1) := by decide +kernel
theorem dX10_anew_34 : decode cX10_anew 34 = .ok (.getfield 36, 3) := by decide +kernel
theorem dX10_anew_37 : decode cX10_anew 37 = .ok (.iload_n 1, 1) := by decide +kernel
theorem dX10_anew_38 : decode cX10_anew 38 = .ok (.iload_n 2, 1) := by decide +kernel
theorem dX10_anew_39 : decode cX10_anew 39 = .ok (.invokevirtual 189, 3) := by decide +kernel
theorem dX10_anew_42 : decode cX10_anew 42 = .ok (.iconst (-1), 1) := by decide +kernel
theorem dX10_anew_43 : decode cX10_anew 43 = .ok (.istore_n 3, 1) := by decide +kernel
theorem dX10_anew_44 : decode cX10_anew 44 = .ok (.iconst (-1), 1) := by decide +kernel
theorem dX10_anew_45 : decode cX10_anew 45 = .ok (.istore 4, 2) := by decide +kernel
theorem dX10_anew_47 : decode cX10_anew 47 = .ok (.iconst 0, 1) := by decide +kernel
theorem dX10_anew_48 : decode cX10_anew 48 = .ok (.istore 5, 2) := by decide +kernel
theorem dX10_anew_50 : decode cX10_anew 50 = .ok (.iload 5, 2) := by decide +kernel
theorem dX10_anew_52 : decode cX10_anew 52 = .ok (.aload_n 0, 1) := by decide +kernel
theorem dX10_anew_53 : decode cX10_anew 53 = .ok (.getfield 36, 3) := by decide +kernel
theorem dX10_anew_56 : decode cX10_anew 56 = .ok (.getfield 223, 3) := by decide +kernel
theorem dX10_anew_59 : decode cX10_anew 59 = .ok (.if_icmp .ge 44, 3) := by decide +kernel
theorem dX10_anew_62 : decode cX10_anew 62 = .ok (.aload_n 0, 1) := by decide +kernel
theorem dX10_anew_63 : decode cX10_anew 63 = .ok (.getfield 43, 3) := by decide +kernel
theorem dX10_anew_66 : decode cX10_anew 66 = .ok (.aload_n 0, 1) := by decide +kernel
theorem dX10_anew_67 : decode cX10_anew 67 = .ok (.getfield 36, 3) := by decide +kernel
theorem dX10_anew_70 : decode cX10_anew 70 = .ok (.iload 5, 2) := by decide +kernel
theorem dX10_anew_72 : decode cX10_anew 72 = .ok (.invokevirtual 255, 3) := by decide +kernel
theorem dX10_anew_75 : decode cX10_anew 75 = .ok (.istore 6, 2) := by decide +kernel
theorem dX10_anew_77 : decode cX10_anew 77 = .ok (.iload 6, 2) := by decide +kernel
theorem dX10_anew_79 : decode cX10_anew 79 = .ok (.iload_n 3, 1) := by decide +kernel
theorem dX10_anew_80 : decode cX10_anew 80 = .ok (.if_icmp .le 17, 3) := by decide +kernel
theorem dX10_anew_83 : decode cX10_anew 83 = .ok (.iload 6, 2) := by decide +kernel
theorem dX10_anew_85 : decode cX10_anew 85 = .ok (.istore_n 3, 1) := by decide +kernel
theorem dX10_anew_86 : decode cX10_anew 86 = .ok (.aload_n 0, 1) := by decide +kernel
theorem dX10_anew_87 : decode cX10_anew 87 = .ok (.getfield 36, 3) := by decide +kernel
theorem dX10_anew_90 : decode cX10_anew 90 = .ok (.iload 5, 2) := by decide +kernel
theorem dX10_anew_92 : decode cX10_anew 92 = .ok (.invokevirtual 259, 3) := by decide +kernel
theorem dX10_anew_95 : decode cX10_anew 95 = .ok (.istore 4, 2) := by decide +kernel
theorem dX10_anew_97 : decode cX10_anew 97 = .ok (.iinc 5 1, 3) := by decide +kernel
theorem dX10_anew_100 : decode cX10_anew 100 = .ok (.goto (-50), 3) := by decide +kernel
theorem dX10_anew_103 : decode cX10_anew 103 = .ok (.iload 4, 2) := by decide +kernel
theorem dX10_anew_105 : decode cX10_anew 105 = .ok (.ireturn, 1) := by decide +kernel
theorem dX10_worth_0 : decode cX10_worth 0 = .ok (.iload_n 2, 1) := by decide +kernel
theorem dX10_worth_1 : decode cX10_worth 1 = .ok (.iload_n 3, 1) := by decide +kernel
theorem dX10_worth_2 : decode cX10_worth 2 = .ok (.sipush 300, 3) := by decide +kernel
theorem dX10_worth_5 : decode cX10_worth 5 = .ok (.invokestatic 182, 3) := by decide +kernel
theorem dX10_worth_8 : decode cX10_worth 8 = .ok (.ifCond .ne 5, 3) := by decide +kernel
theorem dX10_worth_11 : decode cX10_worth 11 = .ok (.iconst (-1), 1) := by decide +kernel
theorem dX10_worth_12 : decode cX10_worth 12 = .ok (.ireturn, 1) := by decide +kernel
theorem dX10_worth_13 : decode cX10_worth 13 = .ok (.aload_n 0, 1) := by decide +kernel
theorem dX10_worth_14 : decode cX10_worth 14 = .ok (.getfield 36, 3) := by decide +kernel
theorem dX10_worth_17 : decode cX10_worth 17 = .ok (.aload_n 0, 1) := by decide +kernel
theorem dX10_worth_18 : decode cX10_worth 18 = .ok (.getfield 10, 3) := by decide +kernel
theorem dX10_worth_21 : decode cX10_worth 21 = .ok (.iconst 0, 1) := by decide +kernel
theorem dX10_worth_22 : decode cX10_worth 22 = .ok (.iconst 0, 1) := by decide +kernel
theorem dX10_worth_23 : decode cX10_worth 23 = .ok (.invokevirtual 174, 3) := by decide +kernel
theorem dX10_worth_26 : decode cX10_worth 26 = .ok (.pop, 1) := by decide +kernel
theorem dX10_worth_27 : decode cX10_worth 27 = .ok (.aload_n 0, 1) := by decide +kernel
theorem dX10_worth_28 : decode cX10_worth 28 = .ok (.getfield 36, 3) := by decide +kernel
theorem dX10_worth_31 : decode cX10_worth 31 = .ok (.iload_n 1, 1) := by decide +kernel
theorem dX10_worth_32 : decode cX10_worth 32 = .ok (.invokevirtual 248, 3) := by decide +kernel
theorem dX10_worth_35 : decode cX10_worth 35 = .ok (.istore 4, 2) := by decide +kernel
theorem dX10_worth_37 : decode cX10_worth 37 = .ok (.iload 4, 2) := by decide +kernel
theorem dX10_worth_39 : decode cX10_worth 39 = .ok (.iconst (-1), 1) := by decide +kernel
theorem dX10_worth_40 : decode cX10_worth 40 = .ok (.if_icmp .ne 5, 3) := by decide +kernel
theorem dX10_worth_43 : decode cX10_worth 43 = .ok (.iconst (-1), 1) := by decide +kernel
theorem dX10_worth_44 : decode cX10_worth 44 = .ok (.ireturn, 1) := by decide +kernel
theorem dX10_worth_45 : decode cX10_worth 45 = .ok (.aload_n 0, 1) := by decide +kernel
theorem dX10_worth_46 : decode cX10_worth 46 = .ok (.getfield 43, 3) := by decide +kernel
theorem dX10_worth_49 : decode cX10_worth 49 = .ok (.aload_n 0, 1) := by decide +kernel
theorem dX10_worth_50 : decode cX10_worth 50 = .ok (.getfield 36, 3) := by decide +kernel
theorem dX10_worth_53 : decode cX10_worth 53 = .ok (.iload_n 2, 1) := by decide +kernel
theorem dX10_worth_54 : decode cX10_worth 54 = .ok (.iload_n 3, 1) := by decide +kernel
theorem dX10_worth_55 : decode cX10_worth 55 = .ok (.invokevirtual 189, 3) := by decide +kernel
theorem dX10_worth_58 : decode cX10_worth 58 = .ok (.aload_n 0, 1) := by decide +kernel
theorem dX10_worth_59 : decode cX10_worth 59 = .ok (.getfield 43, 3) := by decide +kernel
theorem dX10_worth_62 : decode cX10_worth 62 = .ok (.aload_n 0, 1) := by decide +kernel
theorem dX10_worth_63 : decode cX10_worth 63 = .ok (.getfield 36, 3) := by decide +kernel
theorem dX10_worth_66 : decode cX10_worth 66 = .ok (.iload 4, 2) := by decide +kernel
theorem dX10_worth_68 : decode cX10_worth 68 = .ok (.invokevirtual 255, 3) := by decide +kernel
theorem dX10_worth_71 : decode cX10_worth 71 = .ok (.ireturn, 1) := by decide +kernel
theorem dX10_count_0 : decode cX10_count 0 = .ok (.iload_n 1, 1) := by decide +kernel
theorem dX10_count_1 : decode cX10_count 1 = .ok (.tableswitch 123 0 6 #[43, 54, 68, 79, 90, 101, 112], 43) := by decide +kernel
theorem dX10_count_44 : decode cX10_count 44 = .ok (.aload_n 0, 1) := by decide +kernel
theorem dX10_count_45 : decode cX10_count 45 = .ok (.getfield 10, 3) := by decide +kernel
theorem dX10_count_48 : decode cX10_count 48 = .ok (.getfield 58, 3) := by decide +kernel
theorem dX10_count_51 : decode cX10_count 51 = .ok (.getfield 262, 3) := by decide +kernel
theorem dX10_count_54 : decode cX10_count 54 = .ok (.ireturn, 1) := by decide +kernel
theorem dX10_count_55 : decode cX10_count 55 = .ok (.aload_n 0, 1) := by decide +kernel
theorem dX10_count_56 : decode cX10_count 56 = .ok (.getfield 36, 3) := by decide +kernel
theorem dX10_count_59 : decode cX10_count 59 = .ok (.aload_n 0, 1) := by decide +kernel
theorem dX10_count_60 : decode cX10_count 60 = .ok (.getfield 10, 3) := by decide +kernel
theorem dX10_count_63 : decode cX10_count 63 = .ok (.iconst 0, 1) := by decide +kernel
theorem dX10_count_64 : decode cX10_count 64 = .ok (.iconst 0, 1) := by decide +kernel
theorem dX10_count_65 : decode cX10_count 65 = .ok (.invokevirtual 174, 3) := by decide +kernel
theorem dX10_count_68 : decode cX10_count 68 = .ok (.ireturn, 1) := by decide +kernel
theorem dX10_count_69 : decode cX10_count 69 = .ok (.aload_n 0, 1) := by decide +kernel
theorem dX10_count_70 : decode cX10_count 70 = .ok (.getfield 10, 3) := by decide +kernel
theorem dX10_count_73 : decode cX10_count 73 = .ok (.getfield 58, 3) := by decide +kernel
theorem dX10_count_76 : decode cX10_count 76 = .ok (.getfield 265, 3) := by decide +kernel
theorem dX10_count_79 : decode cX10_count 79 = .ok (.ireturn, 1) := by decide +kernel
theorem dX10_count_80 : decode cX10_count 80 = .ok (.aload_n 0, 1) := by decide +kernel
theorem dX10_count_81 : decode cX10_count 81 = .ok (.getfield 10, 3) := by decide +kernel
theorem dX10_count_84 : decode cX10_count 84 = .ok (.getfield 58, 3) := by decide +kernel
theorem dX10_count_87 : decode cX10_count 87 = .ok (.getfield 268, 3) := by decide +kernel
theorem dX10_count_90 : decode cX10_count 90 = .ok (.ireturn, 1) := by decide +kernel
theorem dX10_count_91 : decode cX10_count 91 = .ok (.aload_n 0, 1) := by decide +kernel
theorem dX10_count_92 : decode cX10_count 92 = .ok (.getfield 10, 3) := by decide +kernel
theorem dX10_count_95 : decode cX10_count 95 = .ok (.getfield 58, 3) := by decide +kernel
theorem dX10_count_98 : decode cX10_count 98 = .ok (.getfield 271, 3) := by decide +kernel
theorem dX10_count_101 : decode cX10_count 101 = .ok (.ireturn, 1) := by decide +kernel
theorem dX10_count_102 : decode cX10_count 102 = .ok (.aload_n 0, 1) := by decide +kernel
theorem dX10_count_103 : decode cX10_count 103 = .ok (.getfield 10, 3) := by decide +kernel
theorem dX10_count_106 : decode cX10_count 106 = .ok (.getfield 118, 3) := by decide +kernel
theorem dX10_count_109 : decode cX10_count 109 = .ok (.getfield 130, 3) := by decide +kernel
theorem dX10_count_112 : decode cX10_count 112 = .ok (.ireturn, 1) := by decide +kernel
theorem dX10_count_113 : decode cX10_count 113 = .ok (.aload_n 0, 1) := by decide +kernel
theorem dX10_count_114 : decode cX10_count 114 = .ok (.getfield 10, 3) := by decide +kernel
theorem dX10_count_117 : decode cX10_count 117 = .ok (.getfield 114, 3) := by decide +kernel
theorem dX10_count_120 : decode cX10_count 120 = .ok (.getfield 130, 3) := by decide +kernel
theorem dX10_count_123 : decode cX10_count 123 = .ok (.ireturn, 1) := by decide +kernel
theorem dX10_count_124 : decode cX10_count 124 = .ok (.iload_n 1, 1) := by decide +kernel
theorem dX10_count_125 : decode cX10_count 125 = .ok (.bipush 10, 2) := by decide +kernel
theorem dX10_count_127 : decode cX10_count 127 = .ok (.if_icmp .lt 28, 3) := by decide +kernel
theorem dX10_count_130 : decode cX10_count 130 = .ok (.iload_n 1, 1) := by decide +kernel
theorem dX10_count_131 : decode cX10_count 131 = .ok (.bipush 16, 2) := by decide +kernel
theorem dX10_count_133 : decode cX10_count 133 = .ok (.if_icmp .ge 22, 3) := by decide +kernel
theorem dX10_count_136 : decode cX10_count 136 = .ok (.aload_n 0, 1) := by decide +kernel
theorem dX10_count_137 : decode cX10_count 137 = .ok (.getfield 36, 3) := by decide +kernel
theorem dX10_count_140 : decode cX10_count 140 = .ok (.aload_n 0, 1) := by decide +kernel
theorem dX10_count_141 : decode cX10_count 141 = .ok (.getfield 10, 3) := by decide +kernel
theorem dX10_count_144 : decode cX10_count 144 = .ok (.iconst 1, 1) := by decide +kernel
theorem dX10_count_145 : decode cX10_count 145 = .ok (.iload_n 1, 1) := by decide +kernel
theorem dX10_count_146 : decode cX10_count 146 = .ok (.bipush 10, 2) := by decide +kernel
theorem dX10_count_148 : decode cX10_count 148 = .ok (.isub, 1) := by decide +kernel
theorem dX10_count_149 : decode cX10_count 149 = .ok (.invokevirtual 174, 3) := by decide +kernel
theorem dX10_count_152 : decode cX10_count 152 = .ok (.goto 4, 3) := by decide +kernel
theorem dX10_count_155 : decode cX10_count 155 = .ok (.iconst (-1), 1) := by decide +kernel
theorem dX10_count_156 : decode cX10_count 156 = .ok (.ireturn, 1) := by decide +kernel
theorem dX10_image_0 : decode cX10_image 0 = .ok (.iload_n 1, 1) := by decide +kernel
theorem dX10_image_1 : decode cX10_image 1 = .ok (.ifCond .lt 12, 3) := by decide +kernel
theorem dX10_image_4 : decode cX10_image 4 = .ok (.iload_n 1, 1) := by decide +kernel
theorem dX10_image_5 : decode cX10_image 5 = .ok (.aload_n 0, 1) := by decide +kernel
theorem dX10_image_6 : decode cX10_image 6 = .ok (.getfield 16, 3) := by decide +kernel
theorem dX10_image_9 : decode cX10_image 9 = .ok (.arraylength, 1) := by decide +kernel
theorem dX10_image_10 : decode cX10_image 10 = .ok (.if_icmp .lt 5, 3) := by decide +kernel
theorem dX10_image_13 : decode cX10_image 13 = .ok (.iconst 0, 1) := by decide +kernel
theorem dX10_image_14 : decode cX10_image 14 = .ok (.ireturn, 1) := by decide +kernel
theorem dX10_image_15 : decode cX10_image 15 = .ok (.aload_n 0, 1) := by decide +kernel
theorem dX10_image_16 : decode cX10_image 16 = .ok (.getfield 16, 3) := by decide +kernel
theorem dX10_image_19 : decode cX10_image 19 = .ok (.iload_n 1, 1) := by decide +kernel
theorem dX10_image_20 : decode cX10_image 20 = .ok (.aaload, 1) := by decide +kernel
theorem dX10_image_21 : decode cX10_image 21 = .ok (.astore_n 2, 1) := by decide +kernel
theorem dX10_image_22 : decode cX10_image 22 = .ok (.aload_n 2, 1) := by decide +kernel
theorem dX10_image_23 : decode cX10_image 23 = .ok (.ifnonnull 18, 3) := by decide +kernel
theorem dX10_image_26 : decode cX10_image 26 = .ok (.new 7, 3) := by decide +kernel
theorem dX10_image_29 : decode cX10_image 29 = .ok (.dup, 1) := by decide +kernel
theorem dX10_image_30 : decode cX10_image 30 = .ok (.invokespecial 9, 3) := by decide +kernel
theorem dX10_image_33 : decode cX10_image 33 = .ok (.astore_n 2, 1) := by decide +kernel
theorem dX10_image_34 : decode cX10_image 34 = .ok (.aload_n 0, 1) := by decide +kernel
theorem dX10_image_35 : decode cX10_image 35 = .ok (.getfield 16, 3) := by decide +kernel
theorem dX10_image_38 : decode cX10_image 38 = .ok (.iload_n 1, 1) := by decide +kernel
theorem dX10_image_39 : decode cX10_image 39 = .ok (.aload_n 2, 1) := by decide +kernel
theorem dX10_image_40 : decode cX10_image 40 = .ok (.aastore, 1) := by decide +kernel
theorem dX10_image_41 : decode cX10_image 41 = .ok (.aload_n 2, 1) := by decide +kernel
theorem dX10_image_42 : decode cX10_image 42 = .ok (.aload_n 0, 1) := by decide +kernel
theorem dX10_image_43 : decode cX10_image 43 = .ok (.getfield 10, 3) := by decide +kernel
theorem dX10_image_46 : decode cX10_image 46 = .ok (.invokevirtual 274, 3) := by decide +kernel
theorem dX10_image_49 : decode cX10_image 49 = .ok (.iconst 1, 1) := by decide +kernel
theorem dX10_image_50 : decode cX10_image 50 = .ok (.ireturn, 1) := by decide +kernel
theorem dX10_again_0 : decode cX10_again 0 = .ok (.iload_n 1, 1) := by decide +kernel
theorem dX10_again_1 : decode cX10_again 1 = .ok (.ifCond .lt 12, 3) := by decide +kernel
theorem dX10_again_4 : decode cX10_again 4 = .ok (.iload_n 1, 1) := by decide +kernel
theorem dX10_again_5 : decode cX10_again 5 = .ok (.aload_n 0, 1) := by decide +kernel
theorem dX10_again_6 : decode cX10_again 6 = .ok (.getfield 16, 3) := by decide +kernel
theorem dX10_again_9 : decode cX10_again 9 = .ok (.arraylength, 1) := by decide +kernel
theorem dX10_again_10 : decode cX10_again 10 = .ok (.if_icmp .lt 5, 3) := by decide +kernel
theorem dX10_again_13 : decode cX10_again 13 = .ok (.iconst 0, 1) := by decide +kernel
theorem dX10_again_14 : decode cX10_again 14 = .ok (.ireturn, 1) := by decide +kernel
theorem dX10_again_15 : decode cX10_again 15 = .ok (.aload_n 0, 1) := by decide +kernel
theorem dX10_again_16 : decode cX10_again 16 = .ok (.getfield 16, 3) := by decide +kernel
theorem dX10_again_19 : decode cX10_again 19 = .ok (.iload_n 1, 1) := by decide +kernel
theorem dX10_again_20 : decode cX10_again 20 = .ok (.aaload, 1) := by decide +kernel
theorem dX10_again_21 : decode cX10_again 21 = .ok (.astore_n 2, 1) := by decide +kernel
theorem dX10_again_22 : decode cX10_again 22 = .ok (.aload_n 2, 1) := by decide +kernel
theorem dX10_again_23 : decode cX10_again 23 = .ok (.ifnonnull 5, 3) := by decide +kernel
theorem dX10_again_26 : decode cX10_again 26 = .ok (.iconst 0, 1) := by decide +kernel
theorem dX10_again_27 : decode cX10_again 27 = .ok (.ireturn, 1) := by decide +kernel
theorem dX10_again_28 : decode cX10_again 28 = .ok (.aload_n 0, 1) := by decide +kernel
theorem dX10_again_29 : decode cX10_again 29 = .ok (.getfield 10, 3) := by decide +kernel
theorem dX10_again_32 : decode cX10_again 32 = .ok (.aload_n 2, 1) := by decide +kernel
theorem dX10_again_33 : decode cX10_again 33 = .ok (.invokevirtual 274, 3) := by decide +kernel
theorem dX10_again_36 : decode cX10_again 36 = .ok (.iconst 1, 1) := by decide +kernel
theorem dX10_again_37 : decode cX10_again 37 = .ok (.ireturn, 1) := by decide +kernel
theorem dX10_isUnit_0 : decode cX10_isUnit 0 = .ok (.iload_n 0, 1) := by decide +kernel
theorem dX10_isUnit_1 : decode cX10_isUnit 1 = .ok (.bipush 10, 2) := by decide +kernel
theorem dX10_isUnit_3 : decode cX10_isUnit 3 = .ok (.if_icmp .lt 14, 3) := by decide +kernel
theorem dX10_isUnit_6 : decode cX10_isUnit 6 = .ok (.iload_n 0, 1) := by decide +kernel
theorem dX10_isUnit_7 : decode cX10_isUnit 7 = .ok (.sipush 2000, 3) := by decide +kernel
theorem dX10_isUnit_10 : decode cX10_isUnit 10 = .ok (.if_icmp .gt 7, 3) := by decide +kernel
theorem dX10_isUnit_13 : decode cX10_isUnit 13 = .ok (.iconst 1, 1) := by decide +kernel
theorem dX10_isUnit_14 : decode cX10_isUnit 14 = .ok (.goto 4, 3) := by decide +kernel
theorem dX10_isUnit_17 : decode cX10_isUnit 17 = .ok (.iconst 0, 1) := by decide +kernel
theorem dX10_isUnit_18 : decode cX10_isUnit 18 = .ok (.ireturn, 1) := by decide +kernel
theorem dX10_isRange_0 : decode cX10_isRange 0 = .ok (.iload_n 0, 1) := by decide +kernel
theorem dX10_isRange_1 : decode cX10_isRange 1 = .ok (.invokestatic 157, 3) := by decide +kernel
theorem dX10_isRange_4 : decode cX10_isRange 4 = .ok (.ifCond .eq 26, 3) := by decide +kernel
theorem dX10_isRange_7 : decode cX10_isRange 7 = .ok (.iload_n 1, 1) := by decide +kernel
theorem dX10_isRange_8 : decode cX10_isRange 8 = .ok (.invokestatic 157, 3) := by decide +kernel
theorem dX10_isRange_11 : decode cX10_isRange 11 = .ok (.ifCond .eq 19, 3) := by decide +kernel
theorem dX10_isRange_14 : decode cX10_isRange 14 = .ok (.iload_n 0, 1) := by decide +kernel
theorem dX10_isRange_15 : decode cX10_isRange 15 = .ok (.iload_n 1, 1) := by decide +kernel
theorem dX10_isRange_16 : decode cX10_isRange 16 = .ok (.if_icmp .gt 14, 3) := by decide +kernel
theorem dX10_isRange_19 : decode cX10_isRange 19 = .ok (.iload_n 1, 1) := by decide +kernel
theorem dX10_isRange_20 : decode cX10_isRange 20 = .ok (.iload_n 0, 1) := by decide +kernel
theorem dX10_isRange_21 : decode cX10_isRange 21 = .ok (.isub, 1) := by decide +kernel
theorem dX10_isRange_22 : decode cX10_isRange 22 = .ok (.iload_n 2, 1) := by decide +kernel
theorem dX10_isRange_23 : decode cX10_isRange 23 = .ok (.if_icmp .gt 7, 3) := by decide +kernel
theorem dX10_isRange_26 : decode cX10_isRange 26 = .ok (.iconst 1, 1) := by decide +kernel
theorem dX10_isRange_27 : decode cX10_isRange 27 = .ok (.goto 4, 3) := by decide +kernel
theorem dX10_isRange_30 : decode cX10_isRange 30 = .ok (.iconst 0, 1) := by decide +kernel
theorem dX10_isRange_31 : decode cX10_isRange 31 = .ok (.ireturn, 1) := by decide +kernel
theorem dX10_isTown_0 : decode cX10_isTown 0 = .ok (.iload_n 0, 1) := by decide +kernel
theorem dX10_isTown_1 : decode cX10_isTown 1 = .ok (.ifCond .lt 13, 3) := by decide +kernel
theorem dX10_isTown_4 : decode cX10_isTown 4 = .ok (.iload_n 0, 1) := by decide +kernel
theorem dX10_isTown_5 : decode cX10_isTown 5 = .ok (.bipush 6, 2) := by decide +kernel
theorem dX10_isTown_7 : decode cX10_isTown 7 = .ok (.if_icmp .ge 7, 3) := by decide +kernel
theorem dX10_isTown_10 : decode cX10_isTown 10 = .ok (.iconst 1, 1) := by decide +kernel
theorem dX10_isTown_11 : decode cX10_isTown 11 = .ok (.goto 4, 3) := by decide +kernel
theorem dX10_isTown_14 : decode cX10_isTown 14 = .ok (.iconst 0, 1) := by decide +kernel
theorem dX10_isTown_15 : decode cX10_isTown 15 = .ok (.ireturn, 1) := by decide +kernel
theorem dX10_bestAmong_0 : decode cX10_bestAmong 0 = .ok (.aload_n 0, 1) := by decide +kernel
theorem dX10_bestAmong_1 : decode cX10_bestAmong 1 = .ok (.getfield 36, 3) := by decide +kernel
theorem dX10_bestAmong_4 : decode cX10_bestAmong 4 = .ok (.aload_n 0, 1) := by decide +kernel
theorem dX10_bestAmong_5 : decode cX10_bestAmong 5 = .ok (.getfield 10, 3) := by decide +kernel
theorem dX10_bestAmong_8 : decode cX10_bestAmong 8 = .ok (.iload_n 1, 1) := by decide +kernel
theorem dX10_bestAmong_9 : decode cX10_bestAmong 9 = .ok (.iload_n 2, 1) := by decide +kernel
theorem dX10_bestAmong_10 : decode cX10_bestAmong 10 = .ok (.invokevirtual 174, 3) := by decide +kernel
theorem dX10_bestAmong_13 : decode cX10_bestAmong 13 = .ok (.ifCond .ne 5, 3) := by decide +kernel
theorem dX10_bestAmong_16 : decode cX10_bestAmong 16 = .ok (.iconst (-1), 1) := by decide +kernel
theorem dX10_bestAmong_17 : decode cX10_bestAmong 17 = .ok (.ireturn, 1) := by decide +kernel
theorem dX10_bestAmong_18 : decode cX10_bestAmong 18 = .ok (.aload_n 0, 1) := by decide +kernel
theorem dX10_bestAmong_19 : decode cX10_bestAmong 19 = .ok (.getfield 43, 3) := by decide +kernel
theorem dX10_bestAmong_22 : decode cX10_bestAmong 22 = .ok (.aload_n 0, 1) := by decide +kernel
theorem dX10_bestAmong_23 : decode cX10_bestAmong 23 = .ok (.getfield 36, 3) := by decide +kernel
theorem dX10_bestAmong_26 : decode cX10_bestAmong 26 = .ok (.iload_n 3, 1) := by decide +kernel
theorem dX10_bestAmong_27 : decode cX10_bestAmong 27 = .ok (.iload 4, 2) := by decide +kernel
theorem dX10_bestAmong_29 : decode cX10_bestAmong 29 = .ok (.invokevirtual 189, 3) := by decide +kernel
theorem dX10_bestAmong_32 : decode cX10_bestAmong 32 = .ok (.aload_n 0, 1) := by decide +kernel
theorem dX10_bestAmong_33 : decode cX10_bestAmong 33 = .ok (.getfield 43, 3) := by decide +kernel
theorem dX10_bestAmong_36 : decode cX10_bestAmong 36 = .ok (.invokevirtual 277, 3) := by decide +kernel
theorem dX10_bestAmong_39 : decode cX10_bestAmong 39 = .ok (.ireturn, 1) := by decide +kernel
theorem dX10_simplestRate_0 : decode cX10_simplestRate 0 = .ok (.iconst 2, 1) := by decide +kernel
theorem dX10_simplestRate_1 : decode cX10_simplestRate 1 = .ok (.istore_n 3, 1) := by decide +kernel
theorem dX10_simplestRate_2 : decode cX10_simplestRate 2 = .ok (.iload_n 3, 1) := by decide +kernel
theorem dX10_simplestRate_3 : decode cX10_simplestRate 3 = .ok (.bipush 24, 2) := by decide +kernel
theorem dX10_simplestRate_5 : decode cX10_simplestRate 5 = .ok (.if_icmp .gt 86, 3) := by decide +kernel
theorem dX10_simplestRate_8 : decode cX10_simplestRate 8 = .ok (.iconst 1, 1) := by decide +kernel
theorem dX10_simplestRate_9 : decode cX10_simplestRate 9 = .ok (.iload_n 3, 1) := by decide +kernel
theorem dX10_simplestRate_10 : decode cX10_simplestRate 10 = .ok (.bipush 12, 2) := by decide +kernel
theorem dX10_simplestRate_12 : decode cX10_simplestRate 12 = .ok (.isub, 1) := by decide +kernel
theorem dX10_simplestRate_13 : decode cX10_simplestRate 13 = .ok (.invokestatic 281, 3) := by decide +kernel
theorem dX10_simplestRate_16 : decode cX10_simplestRate 16 = .ok (.istore 4, 2) := by decide +kernel
theorem dX10_simplestRate_18 : decode cX10_simplestRate 18 = .ok (.bipush 12, 2) := by decide +kernel
theorem dX10_simplestRate_20 : decode cX10_simplestRate 20 = .ok (.iload_n 3, 1) := by decide +kernel
theorem dX10_simplestRate_21 : decode cX10_simplestRate 21 = .ok (.iconst 1, 1) := by decide +kernel
theorem dX10_simplestRate_22 : decode cX10_simplestRate 22 = .ok (.isub, 1) := by decide +kernel
theorem dX10_simplestRate_23 : decode cX10_simplestRate 23 = .ok (.invokestatic 286, 3) := by decide +kernel
theorem dX10_simplestRate_26 : decode cX10_simplestRate 26 = .ok (.istore 5, 2) := by decide +kernel
theorem dX10_simplestRate_28 : decode cX10_simplestRate 28 = .ok (.iload 4, 2) := by decide +kernel
theorem dX10_simplestRate_30 : decode cX10_simplestRate 30 = .ok (.istore 6, 2) := by decide +kernel
theorem dX10_simplestRate_32 : decode cX10_simplestRate 32 = .ok (.iload 6, 2) := by decide +kernel
theorem dX10_simplestRate_34 : decode cX10_simplestRate 34 = .ok (.iload 5, 2) := by decide +kernel
theorem dX10_simplestRate_36 : decode cX10_simplestRate 36 = .ok (.if_icmp .gt 49, 3) := by decide +kernel
theorem dX10_simplestRate_39 : decode cX10_simplestRate 39 = .ok (.iload_n 3, 1) := by decide +kernel
theorem dX10_simplestRate_40 : decode cX10_simplestRate 40 = .ok (.iload 6, 2) := by decide +kernel
theorem dX10_simplestRate_42 : decode cX10_simplestRate 42 = .ok (.isub, 1) := by decide +kernel
theorem dX10_simplestRate_43 : decode cX10_simplestRate 43 = .ok (.istore 7, 2) := by decide +kernel
theorem dX10_simplestRate_45 : decode cX10_simplestRate 45 = .ok (.sipush 1000, 3) := by decide +kernel
theorem dX10_simplestRate_48 : decode cX10_simplestRate 48 = .ok (.iload_n 0, 1) := by decide +kernel
theorem dX10_simplestRate_49 : decode cX10_simplestRate 49 = .ok (.iload 7, 2) := by decide +kernel
theorem dX10_simplestRate_51 : decode cX10_simplestRate 51 = .ok (.imul, 1) := by decide +kernel
theorem dX10_simplestRate_52 : decode cX10_simplestRate 52 = .ok (.iload_n 1, 1) := by decide +kernel
theorem dX10_simplestRate_53 : decode cX10_simplestRate 53 = .ok (.iload 6, 2) := by decide +kernel
theorem dX10_simplestRate_55 : decode cX10_simplestRate 55 = .ok (.imul, 1) := by decide +kernel
theorem dX10_simplestRate_56 : decode cX10_simplestRate 56 = .ok (.isub, 1) := by decide +kernel
theorem dX10_simplestRate_57 : decode cX10_simplestRate 57 = .ok (.invokestatic 289, 3) := by decide +kernel
theorem dX10_simplestRate_60 : decode cX10_simplestRate 60 = .ok (.imul, 1) := by decide +kernel
theorem dX10_simplestRate_61 : decode cX10_simplestRate 61 = .ok (.iload_n 2, 1) := by decide +kernel
theorem dX10_simplestRate_62 : decode cX10_simplestRate 62 = .ok (.iload_n 1, 1) := by decide +kernel
theorem dX10_simplestRate_63 : decode cX10_simplestRate 63 = .ok (.imul, 1) := by decide +kernel
theorem dX10_simplestRate_64 : decode cX10_simplestRate 64 = .ok (.iload 6, 2) := by decide +kernel
theorem dX10_simplestRate_66 : decode cX10_simplestRate 66 = .ok (.imul, 1) := by decide +kernel
theorem dX10_simplestRate_67 : decode cX10_simplestRate 67 = .ok (.if_icmp .gt 12, 3) := by decide +kernel
theorem dX10_simplestRate_70 : decode cX10_simplestRate 70 = .ok (.bipush 100, 2) := by decide +kernel
theorem dX10_simplestRate_72 : decode cX10_simplestRate 72 = .ok (.iload 6, 2) := by decide +kernel
theorem dX10_simplestRate_74 : decode cX10_simplestRate 74 = .ok (.imul, 1) := by decide +kernel
theorem dX10_simplestRate_75 : decode cX10_simplestRate 75 = .ok (.iload 7, 2) := by decide +kernel
theorem dX10_simplestRate_77 : decode cX10_simplestRate 77 = .ok (.iadd, 1) := by decide +kernel
theorem dX10_simplestRate_78 : decode cX10_simplestRate 78 = .ok (.ireturn, 1) := by decide +kernel
theorem dX10_simplestRate_79 : decode cX10_simplestRate 79 = .ok (.iinc 6 1, 3) := by decide +kernel
theorem dX10_simplestRate_82 : decode cX10_simplestRate 82 = .ok (.goto (-50), 3) := by decide +kernel
theorem dX10_simplestRate_85 : decode cX10_simplestRate 85 = .ok (.iinc 3 1, 3) := by decide +kernel
theorem dX10_simplestRate_88 : decode cX10_simplestRate 88 = .ok (.goto (-86), 3) := by decide +kernel
theorem dX10_simplestRate_91 : decode cX10_simplestRate 91 = .ok (.iconst (-1), 1) := by decide +kernel
theorem dX10_simplestRate_92 : decode cX10_simplestRate 92 = .ok (.ireturn, 1) := by decide +kernel
theorem dX10_weighEvidence_0 : decode cX10_weighEvidence 0 = .ok (.aload_n 0, 1) := by decide +kernel
theorem dX10_weighEvidence_1 : decode cX10_weighEvidence 1 = .ok (.getfield 36, 3) := by decide +kernel
theorem dX10_weighEvidence_4 : decode cX10_weighEvidence 4 = .ok (.getfield 223, 3) := by decide +kernel
theorem dX10_weighEvidence_7 : decode cX10_weighEvidence 7 = .ok (.istore_n 3, 1) := by decide +kernel
theorem dX10_weighEvidence_8 : decode cX10_weighEvidence 8 = .ok (.iload_n 1, 1) := by decide +kernel
theorem dX10_weighEvidence_9 : decode cX10_weighEvidence 9 = .ok (.iload_n 3, 1) := by decide +kernel
theorem dX10_weighEvidence_10 : decode cX10_weighEvidence 10 = .ok (.imul, 1) := by decide +kernel
theorem dX10_weighEvidence_11 : decode cX10_weighEvidence 11 = .ok (.istore 4, 2) := by decide +kernel
theorem dX10_weighEvidence_13 : decode cX10_weighEvidence 13 = .ok (.aload_n 0, 1) := by decide +kernel
theorem dX10_weighEvidence_14 : decode cX10_weighEvidence 14 = .ok (.getfield 36, 3) := by decide +kernel
theorem dX10_weighEvidence_17 : decode cX10_weighEvidence 17 = .ok (.iload_n 1, 1) := by decide +kernel
theorem dX10_weighEvidence_18 : decode cX10_weighEvidence 18 = .ok (.invokevirtual 206, 3) := by decide +kernel
theorem dX10_weighEvidence_21 : decode cX10_weighEvidence 21 = .ok (.istore 5, 2) := by decide +kernel
theorem dX10_weighEvidence_23 : decode cX10_weighEvidence 23 = .ok (.aload_n 0, 1) := by decide +kernel
theorem dX10_weighEvidence_24 : decode cX10_weighEvidence 24 = .ok (.getfield 50, 3) := by decide +kernel
theorem dX10_weighEvidence_27 : decode cX10_weighEvidence 27 = .ok (.aload_n 0, 1) := by decide +kernel
theorem dX10_weighEvidence_28 : decode cX10_weighEvidence 28 = .ok (.getfield 36, 3) := by decide +kernel
theorem dX10_weighEvidence_31 : decode cX10_weighEvidence 31 = .ok (.iload_n 1, 1) := by decide +kernel
theorem dX10_weighEvidence_32 : decode cX10_weighEvidence 32 = .ok (.iload 5, 2) := by decide +kernel
theorem dX10_weighEvidence_34 : decode cX10_weighEvidence 34 = .ok (.invokevirtual 209, 3) := by decide +kernel
theorem dX10_weighEvidence_37 : decode cX10_weighEvidence 37 = .ok (.i2l, 1) := by decide +kernel
theorem dX10_weighEvidence_38 : decode cX10_weighEvidence 38 = .ok (.lstore 6, 2) := by decide +kernel
theorem dX10_weighEvidence_40 : decode cX10_weighEvidence 40 = .ok (.ldc2_w 292, 3) := by decide +kernel
theorem dX10_weighEvidence_43 : decode cX10_weighEvidence 43 = .ok (.lload 6, 2) := by decide +kernel
theorem dX10_weighEvidence_45 : decode cX10_weighEvidence 45 = .ok (.iload_n 2, 1) := by decide +kernel
theorem dX10_weighEvidence_46 : decode cX10_weighEvidence 46 = .ok (.i2l, 1) := by decide +kernel
theorem dX10_weighEvidence_47 : decode cX10_weighEvidence 47 = .ok (.lmul, 1) := by decide +kernel
theorem dX10_weighEvidence_48 : decode cX10_weighEvidence 48 = .ok (.invokestatic 294, 3) := by decide +kernel
theorem dX10_weighEvidence_51 : decode cX10_weighEvidence 51 = .ok (.lstore 8, 2) := by decide +kernel
theorem dX10_weighEvidence_53 : decode cX10_weighEvidence 53 = .ok (.aload_n 0, 1) := by decide +kernel
theorem dX10_weighEvidence_54 : decode cX10_weighEvidence 54 = .ok (.getfield 54, 3) := by decide +kernel
theorem dX10_weighEvidence_57 : decode cX10_weighEvidence 57 = .ok (.iconst 0, 1) := by decide +kernel
theorem dX10_weighEvidence_58 : decode cX10_weighEvidence 58 = .ok (.iload_n 3, 1) := by decide +kernel
theorem dX10_weighEvidence_59 : decode cX10_weighEvidence 59 = .ok (.iastore, 1) := by decide +kernel
theorem dX10_weighEvidence_60 : decode cX10_weighEvidence 60 = .ok (.aload_n 0, 1) := by decide +kernel
theorem dX10_weighEvidence_61 : decode cX10_weighEvidence 61 = .ok (.getfield 54, 3) := by decide +kernel
theorem dX10_weighEvidence_64 : decode cX10_weighEvidence 64 = .ok (.iconst 1, 1) := by decide +kernel
theorem dX10_weighEvidence_65 : decode cX10_weighEvidence 65 = .ok (.iload 5, 2) := by decide +kernel
theorem dX10_weighEvidence_67 : decode cX10_weighEvidence 67 = .ok (.iastore, 1) := by decide +kernel
theorem dX10_weighEvidence_68 : decode cX10_weighEvidence 68 = .ok (.aload_n 0, 1) := by decide +kernel
theorem dX10_weighEvidence_69 : decode cX10_weighEvidence 69 = .ok (.getfield 54, 3) := by decide +kernel
theorem dX10_weighEvidence_72 : decode cX10_weighEvidence 72 = .ok (.iconst 2, 1) := by decide +kernel
theorem dX10_weighEvidence_73 : decode cX10_weighEvidence 73 = .ok (.iload 4, 2) := by decide +kernel
theorem dX10_weighEvidence_75 : decode cX10_weighEvidence 75 = .ok (.ifCond .ne 7, 3) := by decide +kernel
theorem dX10_weighEvidence_78 : decode cX10_weighEvidence 78 = .ok (.iconst 0, 1) := by decide +kernel
theorem dX10_weighEvidence_79 : decode cX10_weighEvidence 79 = .ok (.goto 18, 3) := by decide +kernel
theorem dX10_weighEvidence_82 : decode cX10_weighEvidence 82 = .ok (.aload_n 0, 1) := by decide +kernel
theorem dX10_weighEvidence_83 : decode cX10_weighEvidence 83 = .ok (.getfield 36, 3) := by decide +kernel
theorem dX10_weighEvidence_86 : decode cX10_weighEvidence 86 = .ok (.iload_n 1, 1) := by decide +kernel
theorem dX10_weighEvidence_87 : decode cX10_weighEvidence 87 = .ok (.invokevirtual 178, 3) := by decide +kernel
theorem dX10_weighEvidence_90 : decode cX10_weighEvidence 90 = .ok (.sipush 1000, 3) := by decide +kernel
theorem dX10_weighEvidence_93 : decode cX10_weighEvidence 93 = .ok (.imul, 1) := by decide +kernel
theorem dX10_weighEvidence_94 : decode cX10_weighEvidence 94 = .ok (.iload 4, 2) := by decide +kernel
theorem dX10_weighEvidence_96 : decode cX10_weighEvidence 96 = .ok (.idiv, 1) := by decide +kernel
theorem dX10_weighEvidence_97 : decode cX10_weighEvidence 97 = .ok (.iastore, 1) := by decide +kernel
theorem dX10_weighEvidence_98 : decode cX10_weighEvidence 98 = .ok (.aload_n 0, 1) := by decide +kernel
theorem dX10_weighEvidence_99 : decode cX10_weighEvidence 99 = .ok (.getfield 54, 3) := by decide +kernel
theorem dX10_weighEvidence_102 : decode cX10_weighEvidence 102 = .ok (.iconst 3, 1) := by decide +kernel
theorem dX10_weighEvidence_103 : decode cX10_weighEvidence 103 = .ok (.ldc2_w 297, 3) := by decide +kernel
theorem dX10_weighEvidence_106 : decode cX10_weighEvidence 106 = .ok (.lload 6, 2) := by decide +kernel
theorem dX10_weighEvidence_108 : decode cX10_weighEvidence 108 = .ok (.ldc2_w 299, 3) := by decide +kernel
theorem dX10_weighEvidence_111 : decode cX10_weighEvidence 111 = .ok (.ldiv, 1) := by decide +kernel
theorem dX10_weighEvidence_112 : decode cX10_weighEvidence 112 = .ok (.invokestatic 294, 3) := by decide +kernel
theorem dX10_weighEvidence_115 : decode cX10_weighEvidence 115 = .ok (.l2i, 1) := by decide +kernel
theorem dX10_weighEvidence_116 : decode cX10_weighEvidence 116 = .ok (.iastore, 1) := by decide +kernel
theorem dX10_weighEvidence_117 : decode cX10_weighEvidence 117 = .ok (.aload_n 0, 1) := by decide +kernel
theorem dX10_weighEvidence_118 : decode cX10_weighEvidence 118 = .ok (.getfield 54, 3) := by decide +kernel
theorem dX10_weighEvidence_121 : decode cX10_weighEvidence 121 = .ok (.iconst 4, 1) := by decide +kernel
theorem dX10_weighEvidence_122 : decode cX10_weighEvidence 122 = .ok (.ldc2_w 297, 3) := by decide +kernel
theorem dX10_weighEvidence_125 : decode cX10_weighEvidence 125 = .ok (.lload 8, 2) := by decide +kernel
theorem dX10_weighEvidence_127 : decode cX10_weighEvidence 127 = .ok (.ldc2_w 299, 3) := by decide +kernel
theorem dX10_weighEvidence_130 : decode cX10_weighEvidence 130 = .ok (.ldiv, 1) := by decide +kernel
theorem dX10_weighEvidence_131 : decode cX10_weighEvidence 131 = .ok (.invokestatic 294, 3) := by decide +kernel
theorem dX10_weighEvidence_134 : decode cX10_weighEvidence 134 = .ok (.l2i, 1) := by decide +kernel
theorem dX10_weighEvidence_135 : decode cX10_weighEvidence 135 = .ok (.iastore, 1) := by decide +kernel
theorem dX10_weighEvidence_136 : decode cX10_weighEvidence 136 = .ok (.aload_n 0, 1) := by decide +kernel
theorem dX10_weighEvidence_137 : decode cX10_weighEvidence 137 = .ok (.getfield 54, 3) := by decide +kernel
theorem dX10_weighEvidence_140 : decode cX10_weighEvidence 140 = .ok (.iconst 5, 1) := by decide +kernel
theorem dX10_weighEvidence_141 : decode cX10_weighEvidence 141 = .ok (.aload_n 0, 1) := by decide +kernel
theorem dX10_weighEvidence_142 : decode cX10_weighEvidence 142 = .ok (.getfield 43, 3) := by decide +kernel
theorem dX10_weighEvidence_145 : decode cX10_weighEvidence 145 = .ok (.iload_n 1, 1) := by decide +kernel
theorem dX10_weighEvidence_146 : decode cX10_weighEvidence 146 = .ok (.invokevirtual 301, 3) := by decide +kernel
theorem dX10_weighEvidence_149 : decode cX10_weighEvidence 149 = .ok (.iastore, 1) := by decide +kernel
theorem dX10_weighEvidence_150 : decode cX10_weighEvidence 150 = .ok (.aload_n 0, 1) := by decide +kernel
theorem dX10_weighEvidence_151 : decode cX10_weighEvidence 151 = .ok (.getfield 54, 3) := by decide +kernel
theorem dX10_weighEvidence_154 : decode cX10_weighEvidence 154 = .ok (.bipush 6, 2) := by decide +kernel
theorem dX10_weighEvidence_156 : decode cX10_weighEvidence 156 = .ok (.aload_n 0, 1) := by decide +kernel
theorem dX10_weighEvidence_157 : decode cX10_weighEvidence 157 = .ok (.getfield 36, 3) := by decide +kernel
theorem dX10_weighEvidence_160 : decode cX10_weighEvidence 160 = .ok (.iload_n 1, 1) := by decide +kernel
theorem dX10_weighEvidence_161 : decode cX10_weighEvidence 161 = .ok (.invokevirtual 304, 3) := by decide +kernel
theorem dX10_weighEvidence_164 : decode cX10_weighEvidence 164 = .ok (.iastore, 1) := by decide +kernel
theorem dX10_weighEvidence_165 : decode cX10_weighEvidence 165 = .ok (.aload_n 0, 1) := by decide +kernel
theorem dX10_weighEvidence_166 : decode cX10_weighEvidence 166 = .ok (.getfield 54, 3) := by decide +kernel
theorem dX10_weighEvidence_169 : decode cX10_weighEvidence 169 = .ok (.bipush 7, 2) := by decide +kernel
theorem dX10_weighEvidence_171 : decode cX10_weighEvidence 171 = .ok (.aload_n 0, 1) := by decide +kernel
theorem dX10_weighEvidence_172 : decode cX10_weighEvidence 172 = .ok (.getfield 36, 3) := by decide +kernel
theorem dX10_weighEvidence_175 : decode cX10_weighEvidence 175 = .ok (.iload_n 1, 1) := by decide +kernel
theorem dX10_weighEvidence_176 : decode cX10_weighEvidence 176 = .ok (.invokevirtual 307, 3) := by decide +kernel
theorem dX10_weighEvidence_179 : decode cX10_weighEvidence 179 = .ok (.iastore, 1) := by decide +kernel
theorem dX10_weighEvidence_180 : decode cX10_weighEvidence 180 = .ok (.return_, 1) := by decide +kernel
theorem dX11_init_0 : decode cX11_init 0 = .ok (.aload_n 0, 1) := by decide +kernel
theorem dX11_init_1 : decode cX11_init 1 = .ok (.invokespecial 1, 3) := by decide +kernel
theorem dX11_init_4 : decode cX11_init 4 = .ok (.aload_n 0, 1) := by decide +kernel
theorem dX11_init_5 : decode cX11_init 5 = .ok (.sipush 2000, 3) := by decide +kernel
theorem dX11_init_8 : decode cX11_init 8 = .ok (.newarray .byte, 2) := by decide +kernel
theorem dX11_init_10 : decode cX11_init 10 = .ok (.putfield 7, 3) := by decide +kernel
theorem dX11_init_13 : decode cX11_init 13 = .ok (.aload_n 0, 1) := by decide +kernel
theorem dX11_init_14 : decode cX11_init 14 = .ok (.iconst 4, 1) := by decide +kernel
theorem dX11_init_15 : decode cX11_init 15 = .ok (.newarray .int, 2) := by decide +kernel
theorem dX11_init_17 : decode cX11_init 17 = .ok (.putfield 13, 3) := by decide +kernel
theorem dX11_init_20 : decode cX11_init 20 = .ok (.aload_n 0, 1) := by decide +kernel
theorem dX11_init_21 : decode cX11_init 21 = .ok (.iconst 4, 1) := by decide +kernel
theorem dX11_init_22 : decode cX11_init 22 = .ok (.newarray .int, 2) := by decide +kernel
theorem dX11_init_24 : decode cX11_init 24 = .ok (.putfield 17, 3) := by decide +kernel
theorem dX11_init_27 : decode cX11_init 27 = .ok (.aload_n 0, 1) := by decide +kernel
theorem dX11_init_28 : decode cX11_init 28 = .ok (.iconst 4, 1) := by decide +kernel
theorem dX11_init_29 : decode cX11_init 29 = .ok (.newarray .int, 2) := by decide +kernel
theorem dX11_init_31 : decode cX11_init 31 = .ok (.putfield 20, 3) := by decide +kernel
theorem dX11_init_34 : decode cX11_init 34 = .ok (.aload_n 0, 1) := by decide +kernel
theorem dX11_init_35 : decode cX11_init 35 = .ok (.iconst 4, 1) := by decide +kernel
theorem dX11_init_36 : decode cX11_init 36 = .ok (.newarray .int, 2) := by decide +kernel
theorem dX11_init_38 : decode cX11_init 38 = .ok (.putfield 23, 3) := by decide +kernel
theorem dX11_init_41 : decode cX11_init 41 = .ok (.aload_n 0, 1) := by decide +kernel
theorem dX11_init_42 : decode cX11_init 42 = .ok (.iconst 4, 1) := by decide +kernel
theorem dX11_init_43 : decode cX11_init 43 = .ok (.newarray .int, 2) := by decide +kernel
theorem dX11_init_45 : decode cX11_init 45 = .ok (.putfield 26, 3) := by decide +kernel
theorem dX11_init_48 : decode cX11_init 48 = .ok (.aload_n 0, 1) := by decide +kernel
theorem dX11_init_49 : decode cX11_init 49 = .ok (.iconst 4, 1) := by decide +kernel
theorem dX11_init_50 : decode cX11_init 50 = .ok (.newarray .int, 2) := by decide +kernel
theorem dX11_init_52 : decode cX11_init 52 = .ok (.putfield 29, 3) := by decide +kernel
theorem dX11_init_55 : decode cX11_init 55 = .ok (.aload_n 0, 1) := by decide +kernel
theorem dX11_init_56 : decode cX11_init 56 = .ok (.iconst 4, 1) := by decide +kernel
theorem dX11_init_57 : decode cX11_init 57 = .ok (.newarray .int, 2) := by decide +kernel
theorem dX11_init_59 : decode cX11_init 59 = .ok (.putfield 32, 3) := by decide +kernel
theorem dX11_init_62 : decode cX11_init 62 = .ok (.aload_n 0, 1) := by decide +kernel
theorem dX11_init_63 : decode cX11_init 63 = .ok (.sipush 6400, 3) := by decide +kernel
theorem dX11_init_66 : decode cX11_init 66 = .ok (.newarray .int, 2) := by decide +kernel
theorem dX11_init_68 : decode cX11_init 68 = .ok (.putfield 35, 3) := by decide +kernel
theorem dX11_init_71 : decode cX11_init 71 = .ok (.aload_n 0, 1) := by decide +kernel
theorem dX11_init_72 : decode cX11_init 72 = .ok (.sipush 384, 3) := by decide +kernel
theorem dX11_init_75 : decode cX11_init 75 = .ok (.newarray .int, 2) := by decide +kernel
theorem dX11_init_77 : decode cX11_init 77 = .ok (.putfield 38, 3) := by decide +kernel
theorem dX11_init_80 : decode cX11_init 80 = .ok (.aload_n 0, 1) := by decide +kernel
theorem dX11_init_81 : decode cX11_init 81 = .ok (.iconst 4, 1) := by decide +kernel
theorem dX11_init_82 : decode cX11_init 82 = .ok (.newarray .int, 2) := by decide +kernel
theorem dX11_init_84 : decode cX11_init 84 = .ok (.putfield 41, 3) := by decide +kernel
theorem dX11_init_87 : decode cX11_init 87 = .ok (.aload_n 0, 1) := by decide +kernel
theorem dX11_init_88 : decode cX11_init 88 = .ok (.iconst 4, 1) := by decide +kernel
theorem dX11_init_89 : decode cX11_init 89 = .ok (.newarray .int, 2) := by decide +kernel
theorem dX11_init_91 : decode cX11_init 91 = .ok (.putfield 44, 3) := by decide +kernel
theorem dX11_init_94 : decode cX11_init 94 = .ok (.aload_n 0, 1) := by decide +kernel
theorem dX11_init_95 : decode cX11_init 95 = .ok (.bipush 8, 2) := by decide +kernel
theorem dX11_init_97 : decode cX11_init 97 = .ok (.newarray .int, 2) := by decide +kernel
theorem dX11_init_99 : decode cX11_init 99 = .ok (.putfield 47, 3) := by decide +kernel
theorem dX11_init_102 : decode cX11_init 102 = .ok (.aload_n 0, 1) := by decide +kernel
theorem dX11_init_103 : decode cX11_init 103 = .ok (.iconst 4, 1) := by decide +kernel
theorem dX11_init_104 : decode cX11_init 104 = .ok (.newarray .int, 2) := by decide +kernel
theorem dX11_init_106 : decode cX11_init 106 = .ok (.putfield 50, 3) := by decide +kernel
theorem dX11_init_109 : decode cX11_init 109 = .ok (.aload_n 0, 1) := by decide +kernel
theorem dX11_init_110 : decode cX11_init 110 = .ok (.bipush 8, 2) := by decide +kernel
theorem dX11_init_112 : decode cX11_init 112 = .ok (.newarray .int, 2) := by decide +kernel
theorem dX11_init_114 : decode cX11_init 114 = .ok (.putfield 53, 3) := by decide +kernel
theorem dX11_init_117 : decode cX11_init 117 = .ok (.aload_n 0, 1) := by decide +kernel
theorem dX11_init_118 : decode cX11_init 118 = .ok (.sipush 128, 3) := by decide +kernel
theorem dX11_init_121 : decode cX11_init 121 = .ok (.newarray .int, 2) := by decide +kernel
theorem dX11_init_123 : decode cX11_init 123 = .ok (.putfield 56, 3) := by decide +kernel
theorem dX11_init_126 : decode cX11_init 126 = .ok (.aload_n 0, 1) := by decide +kernel
theorem dX11_init_127 : decode cX11_init 127 = .ok (.sipush 512, 3) := by decide +kernel
theorem dX11_init_130 : decode cX11_init 130 = .ok (.newarray .int, 2) := by decide +kernel
theorem dX11_init_132 : decode cX11_init 132 = .ok (.putfield 59, 3) := by decide +kernel
theorem dX11_init_135 : decode cX11_init 135 = .ok (.aload_n 0, 1) := by decide +kernel
theorem dX11_init_136 : decode cX11_init 136 = .ok (.sipush 512, 3) := by decide +kernel
theorem dX11_init_139 : decode cX11_init 139 = .ok (.newarray .int, 2) := by decide +kernel
theorem dX11_init_141 : decode cX11_init 141 = .ok (.putfield 62, 3) := by decide +kernel
theorem dX11_init_144 : decode cX11_init 144 = .ok (.aload_n 0, 1) := by decide +kernel
theorem dX11_init_145 : decode cX11_init 145 = .ok (.sipush 512, 3) := by decide +kernel
theorem dX11_init_148 : decode cX11_init 148 = .ok (.newarray .int, 2) := by decide +kernel
theorem dX11_init_150 : decode cX11_init 150 = .ok (.putfield 65, 3) := by decide +kernel
theorem dX11_init_153 : decode cX11_init 153 = .ok (.aload_n 0, 1) := by decide +kernel
theorem dX11_init_154 : decode cX11_init 154 = .ok (.sipush 128, 3) := by decide +kernel
theorem dX11_init_157 : decode cX11_init 157 = .ok (.newarray .int, 2) := by decide +kernel
theorem dX11_init_159 : decode cX11_init 159 = .ok (.putfield 68, 3) := by decide +kernel
theorem dX11_init_162 : decode cX11_init 162 = .ok (.aload_n 0, 1) := by decide +kernel
theorem dX11_init_163 : decode cX11_init 163 = .ok (.sipush 128, 3) := by decide +kernel
theorem dX11_init_166 : decode cX11_init 166 = .ok (.newarray .int, 2) := by decide +kernel
theorem dX11_init_168 : decode cX11_init 168 = .ok (.putfield 71, 3) := by decide +kernel
theorem dX11_init_171 : decode cX11_init 171 = .ok (.aload_n 0, 1) := by decide +kernel
theorem dX11_init_172 : decode cX11_init 172 = .ok (.sipush 128, 3) := by decide +kernel
theorem dX11_init_175 : decode cX11_init 175 = .ok (.newarray .int, 2) := by decide +kernel
theorem dX11_init_177 : decode cX11_init 177 = .ok (.putfield 74, 3) := by decide +kernel
theorem dX11_init_180 : decode cX11_init 180 = .ok (.aload_n 0, 1) := by decide +kernel
theorem dX11_init_181 : decode cX11_init 181 = .ok (.bipush 17, 2) := by decide +kernel
theorem dX11_init_183 : decode cX11_init 183 = .ok (.newarray .int, 2) := by decide +kernel
theorem dX11_init_185 : decode cX11_init 185 = .ok (.putfield 77, 3) := by decide +kernel
theorem dX11_init_188 : decode cX11_init 188 = .ok (.aload_n 0, 1) := by decide +kernel
theorem dX11_init_189 : decode cX11_init 189 = .ok (.bipush 64, 2) := by decide +kernel
theorem dX11_init_191 : decode cX11_init 191 = .ok (.newarray .int, 2) := by decide +kernel
theorem dX11_init_193 : decode cX11_init 193 = .ok (.putfield 80, 3) := by decide +kernel
theorem dX11_init_196 : decode cX11_init 196 = .ok (.aload_n 0, 1) := by decide +kernel
theorem dX11_init_197 : decode cX11_init 197 = .ok (.bipush 64, 2) := by decide +kernel
theorem dX11_init_199 : decode cX11_init 199 = .ok (.newarray .int, 2) := by decide +kernel
theorem dX11_init_201 : decode cX11_init 201 = .ok (.putfield 83, 3) := by decide +kernel
theorem dX11_init_204 : decode cX11_init 204 = .ok (.aload_n 0, 1) := by decide +kernel
theorem dX11_init_205 : decode cX11_init 205 = .ok (.bipush 64, 2) := by decide +kernel
theorem dX11_init_207 : decode cX11_init 207 = .ok (.newarray .int, 2) := by decide +kernel
theorem dX11_init_209 : decode cX11_init 209 = .ok (.putfield 86, 3) := by decide +kernel
theorem dX11_init_212 : decode cX11_init 212 = .ok (.aload_n 0, 1) := by decide +kernel
theorem dX11_init_213 : decode cX11_init 213 = .ok (.bipush 17, 2) := by decide +kernel
theorem dX11_init_215 : decode cX11_init 215 = .ok (.newarray .int, 2) := by decide +kernel
theorem dX11_init_217 : decode cX11_init 217 = .ok (.putfield 89, 3) := by decide +kernel
theorem dX11_init_220 : decode cX11_init 220 = .ok (.aload_n 0, 1) := by decide +kernel
theorem dX11_init_221 : decode cX11_init 221 = .ok (.bipush 17, 2) := by decide +kernel
theorem dX11_init_223 : decode cX11_init 223 = .ok (.newarray .int, 2) := by decide +kernel
theorem dX11_init_225 : decode cX11_init 225 = .ok (.putfield 92, 3) := by decide +kernel
theorem dX11_init_228 : decode cX11_init 228 = .ok (.aload_n 0, 1) := by decide +kernel
theorem dX11_init_229 : decode cX11_init 229 = .ok (.bipush 17, 2) := by decide +kernel
theorem dX11_init_231 : decode cX11_init 231 = .ok (.newarray .int, 2) := by decide +kernel
theorem dX11_init_233 : decode cX11_init 233 = .ok (.putfield 95, 3) := by decide +kernel
theorem dX11_init_236 : decode cX11_init 236 = .ok (.aload_n 0, 1) := by decide +kernel
theorem dX11_init_237 : decode cX11_init 237 = .ok (.bipush 8, 2) := by decide +kernel
theorem dX11_init_239 : decode cX11_init 239 = .ok (.newarray .int, 2) := by decide +kernel
theorem dX11_init_241 : decode cX11_init 241 = .ok (.putfield 98, 3) := by decide +kernel
theorem dX11_init_244 : decode cX11_init 244 = .ok (.aload_n 0, 1) := by decide +kernel
theorem dX11_init_245 : decode cX11_init 245 = .ok (.bipush 32, 2) := by decide +kernel
theorem dX11_init_247 : decode cX11_init 247 = .ok (.newarray .boolean, 2) := by decide +kernel
theorem dX11_init_249 : decode cX11_init 249 = .ok (.putfield 101, 3) := by decide +kernel
theorem dX11_init_252 : decode cX11_init 252 = .ok (.aload_n 0, 1) := by decide +kernel
theorem dX11_init_253 : decode cX11_init 253 = .ok (.sipush 352, 3) := by decide +kernel
theorem dX11_init_256 : decode cX11_init 256 = .ok (.newarray .int, 2) := by decide +kernel
theorem dX11_init_258 : decode cX11_init 258 = .ok (.putfield 105, 3) := by decide +kernel
theorem dX11_init_261 : decode cX11_init 261 = .ok (.aload_n 0, 1) := by decide +kernel
theorem dX11_init_262 : decode cX11_init 262 = .ok (.bipush 32, 2) := by decide +kernel
theorem dX11_init_264 : decode cX11_init 264 = .ok (.newarray .int, 2) := by decide +kernel
theorem dX11_init_266 : decode cX11_init 266 = .ok (.putfield 108, 3) := by decide +kernel
theorem dX11_init_269 : decode cX11_init 269 = .ok (.aload_n 0, 1) := by decide +kernel
theorem dX11_init_270 : decode cX11_init 270 = .ok (.bipush 32, 2) := by decide +kernel
theorem dX11_init_272 : decode cX11_init 272 = .ok (.newarray .int, 2) := by decide +kernel
theorem dX11_init_274 : decode cX11_init 274 = .ok (.putfield 111, 3) := by decide +kernel
theorem dX11_init_277 : decode cX11_init 277 = .ok (.aload_n 0, 1) := by decide +kernel
theorem dX11_init_278 : decode cX11_init 278 = .ok (.bipush 32, 2) := by decide +kernel
theorem dX11_init_280 : decode cX11_init 280 = .ok (.newarray .boolean, 2) := by decide +kernel
theorem dX11_init_282 : decode cX11_init 282 = .ok (.putfield 114, 3) := by decide +kernel
theorem dX11_init_285 : decode cX11_init 285 = .ok (.aload_n 0, 1) := by decide +kernel
theorem dX11_init_286 : decode cX11_init 286 = .ok (.sipush 301, 3) := by decide +kernel
theorem dX11_init_289 : decode cX11_init 289 = .ok (.newarray .int, 2) := by decide +kernel
theorem dX11_init_291 : decode cX11_init 291 = .ok (.putfield 117, 3) := by decide +kernel
theorem dX11_init_294 : decode cX11_init 294 = .ok (.aload_n 0, 1) := by decide +kernel
theorem dX11_init_295 : decode cX11_init 295 = .ok (.bipush 33, 2) := by decide +kernel
theorem dX11_init_297 : decode cX11_init 297 = .ok (.newarray .long, 2) := by decide +kernel
theorem dX11_init_299 : decode cX11_init 299 = .ok (.putfield 120, 3) := by decide +kernel
theorem dX11_init_302 : decode cX11_init 302 = .ok (.aload_n 0, 1) := by decide +kernel
theorem dX11_init_303 : decode cX11_init 303 = .ok (.bipush 32, 2) := by decide +kernel
theorem dX11_init_305 : decode cX11_init 305 = .ok (.newarray .boolean, 2) := by decide +kernel
theorem dX11_init_307 : decode cX11_init 307 = .ok (.putfield 124, 3) := by decide +kernel
theorem dX11_init_310 : decode cX11_init 310 = .ok (.aload_n 0, 1) := by decide +kernel
theorem dX11_init_311 : decode cX11_init 311 = .ok (.iconst 3, 1) := by decide +kernel
theorem dX11_init_312 : decode cX11_init 312 = .ok (.newarray .boolean, 2) := by decide +kernel
theorem dX11_init_314 : decode cX11_init 314 = .ok (.putfield 127, 3) := by decide +kernel
theorem dX11_init_317 : decode cX11_init 317 = .ok (.aload_n 0, 1) := by decide +kernel
theorem dX11_init_318 : decode cX11_init 318 = .ok (.getfield 20, 3) := by decide +kernel
theorem dX11_init_321 : decode cX11_init 321 = .ok (.iconst 0, 1) := by decide +kernel
theorem dX11_init_322 : decode cX11_init 322 = .ok (.iconst (-1), 1) := by decide +kernel
theorem dX11_init_323 : decode cX11_init 323 = .ok (.iastore, 1) := by decide +kernel
theorem dX11_init_324 : decode cX11_init 324 = .ok (.aload_n 0, 1) := by decide +kernel
theorem dX11_init_325 : decode cX11_init 325 = .ok (.getfield 29, 3) := by decide +kernel
theorem dX11_init_328 : decode cX11_init 328 = .ok (.iconst 0, 1) := by decide +kernel
theorem dX11_init_329 : decode cX11_init 329 = .ok (.iconst (-1), 1) := by decide +kernel
theorem dX11_init_330 : decode cX11_init 330 = .ok (.iastore, 1) := by decide +kernel
theorem dX11_init_331 : decode cX11_init 331 = .ok (.aload_n 0, 1) := by decide +kernel
theorem dX11_init_332 : decode cX11_init 332 = .ok (.getfield 41, 3) := by decide +kernel
theorem dX11_init_335 : decode cX11_init 335 = .ok (.iconst 0, 1) := by decide +kernel
theorem dX11_init_336 : decode cX11_init 336 = .ok (.bipush 63, 2) := by decide +kernel
theorem dX11_init_338 : decode cX11_init 338 = .ok (.iastore, 1) := by decide +kernel
theorem dX11_init_339 : decode cX11_init 339 = .ok (.aload_n 0, 1) := by decide +kernel
theorem dX11_init_340 : decode cX11_init 340 = .ok (.getfield 44, 3) := by decide +kernel
theorem dX11_init_343 : decode cX11_init 343 = .ok (.iconst 0, 1) := by decide +kernel
theorem dX11_init_344 : decode cX11_init 344 = .ok (.bipush 31, 2) := by decide +kernel
theorem dX11_init_346 : decode cX11_init 346 = .ok (.iastore, 1) := by decide +kernel
theorem dX11_init_347 : decode cX11_init 347 = .ok (.aload_n 0, 1) := by decide +kernel
theorem dX11_init_348 : decode cX11_init 348 = .ok (.getfield 47, 3) := by decide +kernel
theorem dX11_init_351 : decode cX11_init 351 = .ok (.iconst 0, 1) := by decide +kernel
theorem dX11_init_352 : decode cX11_init 352 = .ok (.sipush (-3000), 3) := by decide +kernel
theorem dX11_init_355 : decode cX11_init 355 = .ok (.iastore, 1) := by decide +kernel
theorem dX11_init_356 : decode cX11_init 356 = .ok (.aload_n 0, 1) := by decide +kernel
theorem dX11_init_357 : decode cX11_init 357 = .ok (.getfield 47, 3) := by decide +kernel
theorem dX11_init_360 : decode cX11_init 360 = .ok (.iconst 1, 1) := by decide +kernel
theorem dX11_init_361 : decode cX11_init 361 = .ok (.sipush 1900, 3) := by decide +kernel
theorem dX11_init_364 : decode cX11_init 364 = .ok (.iastore, 1) := by decide +kernel
theorem dX11_init_365 : decode cX11_init 365 = .ok (.return_, 1) := by decide +kernel
theorem dX11_is_0 : decode cX11_is 0 = .ok (.iload_n 0, 1) := by decide +kernel
theorem dX11_is_1 : decode cX11_is 1 = .ok (.iload_n 1, 1) := by decide +kernel
theorem dX11_is_2 : decode cX11_is 2 = .ok (.if_icmp .lt 12, 3) := by decide +kernel
theorem dX11_is_5 : decode cX11_is 5 = .ok (.iload_n 0, 1) := by decide +kernel
theorem dX11_is_6 : decode cX11_is 6 = .ok (.iload_n 2, 1) := by decide +kernel
theorem dX11_is_7 : decode cX11_is 7 = .ok (.if_icmp .gt 7, 3) := by decide +kernel
theorem dX11_is_10 : decode cX11_is 10 = .ok (.iconst 1, 1) := by decide +kernel
theorem dX11_is_11 : decode cX11_is 11 = .ok (.goto 4, 3) := by decide +kernel
theorem dX11_is_14 : decode cX11_is 14 = .ok (.iconst 0, 1) := by decide +kernel
theorem dX11_is_15 : decode cX11_is 15 = .ok (.ireturn, 1) := by decide +kernel
theorem dX11_move_0 : decode cX11_move 0 = .ok (.iconst 0, 1) := by decide +kernel
theorem dX11_move_1 : decode cX11_move 1 = .ok (.istore 4, 2) := by decide +kernel
theorem dX11_move_3 : decode cX11_move 3 = .ok (.iload 4, 2) := by decide +kernel
theorem dX11_move_5 : decode cX11_move 5 = .ok (.iload_n 1, 1) := by decide +kernel
theorem dX11_move_6 : decode cX11_move 6 = .ok (.if_icmp .ge 25, 3) := by decide +kernel
theorem dX11_move_9 : decode cX11_move 9 = .ok (.aload_n 0, 1) := by decide +kernel
theorem dX11_move_10 : decode cX11_move 10 = .ok (.iload_n 1, 1) := by decide +kernel
theorem dX11_move_11 : decode cX11_move 11 = .ok (.iload_n 3, 1) := by decide +kernel
theorem dX11_move_12 : decode cX11_move 12 = .ok (.imul, 1) := by decide +kernel
theorem dX11_move_13 : decode cX11_move 13 = .ok (.iload 4, 2) := by decide +kernel
theorem dX11_move_15 : decode cX11_move 15 = .ok (.iadd, 1) := by decide +kernel
theorem dX11_move_16 : decode cX11_move 16 = .ok (.aload_n 0, 1) := by decide +kernel
theorem dX11_move_17 : decode cX11_move 17 = .ok (.iload_n 1, 1) := by decide +kernel
theorem dX11_move_18 : decode cX11_move 18 = .ok (.iload_n 2, 1) := by decide +kernel
theorem dX11_move_19 : decode cX11_move 19 = .ok (.imul, 1) := by decide +kernel
theorem dX11_move_20 : decode cX11_move 20 = .ok (.iload 4, 2) := by decide +kernel
theorem dX11_move_22 : decode cX11_move 22 = .ok (.iadd, 1) := by decide +kernel
theorem dX11_move_23 : decode cX11_move 23 = .ok (.iaload, 1) := by decide +kernel
theorem dX11_move_24 : decode cX11_move 24 = .ok (.iastore, 1) := by decide +kernel
theorem dX11_move_25 : decode cX11_move 25 = .ok (.iinc 4 1, 3) := by decide +kernel
theorem dX11_move_28 : decode cX11_move 28 = .ok (.goto (-25), 3) := by decide +kernel
theorem dX11_move_31 : decode cX11_move 31 = .ok (.return_, 1) := by decide +kernel
theorem dX11_copy_0 : decode cX11_copy 0 = .ok (.iconst 0, 1) := by decide +kernel
theorem dX11_copy_1 : decode cX11_copy 1 = .ok (.istore_n 3, 1) := by decide +kernel
theorem dX11_copy_2 : decode cX11_copy 2 = .ok (.iload_n 3, 1) := by decide +kernel
theorem dX11_copy_3 : decode cX11_copy 3 = .ok (.sipush 500, 3) := by decide +kernel
theorem dX11_copy_6 : decode cX11_copy 6 = .ok (.if_icmp .ge 33, 3) := by decide +kernel
theorem dX11_copy_9 : decode cX11_copy 9 = .ok (.aload_n 0, 1) := by decide +kernel
theorem dX11_copy_10 : decode cX11_copy 10 = .ok (.getfield 7, 3) := by decide +kernel
theorem dX11_copy_13 : decode cX11_copy 13 = .ok (.sipush 500, 3) := by decide +kernel
theorem dX11_copy_16 : decode cX11_copy 16 = .ok (.iload_n 2, 1) := by decide +kernel
theorem dX11_copy_17 : decode cX11_copy 17 = .ok (.imul, 1) := by decide +kernel
theorem dX11_copy_18 : decode cX11_copy 18 = .ok (.iload_n 3, 1) := by decide +kernel
theorem dX11_copy_19 : decode cX11_copy 19 = .ok (.iadd, 1) := by decide +kernel
theorem dX11_copy_20 : decode cX11_copy 20 = .ok (.aload_n 0, 1) := by decide +kernel
theorem dX11_copy_21 : decode cX11_copy 21 = .ok (.getfield 7, 3) := by decide +kernel
theorem dX11_copy_24 : decode cX11_copy 24 = .ok (.sipush 500, 3) := by decide +kernel
theorem dX11_copy_27 : decode cX11_copy 27 = .ok (.iload_n 1, 1) := by decide +kernel
theorem dX11_copy_28 : decode cX11_copy 28 = .ok (.imul, 1) := by decide +kernel
theorem dX11_copy_29 : decode cX11_copy 29 = .ok (.iload_n 3, 1) := by decide +kernel
theorem dX11_copy_30 : decode cX11_copy 30 = .ok (.iadd, 1) := by decide +kernel
theorem dX11_copy_31 : decode cX11_copy 31 = .ok (.baload, 1) := by decide +kernel
theorem dX11_copy_32 : decode cX11_copy 32 = .ok (.bastore, 1) := by decide +kernel
theorem dX11_copy_33 : decode cX11_copy 33 = .ok (.iinc 3 1, 3) := by decide +kernel
theorem dX11_copy_36 : decode cX11_copy 36 = .ok (.goto (-34), 3) := by decide +kernel
theorem dX11_copy_39 : decode cX11_copy 39 = .ok (.aload_n 0, 1) := by decide +kernel
theorem dX11_copy_40 : decode cX11_copy 40 = .ok (.getfield 13, 3) := by decide +kernel
theorem dX11_copy_43 : decode cX11_copy 43 = .ok (.iconst 1, 1) := by decide +kernel
theorem dX11_copy_44 : decode cX11_copy 44 = .ok (.iload_n 1, 1) := by decide +kernel
theorem dX11_copy_45 : decode cX11_copy 45 = .ok (.iload_n 2, 1) := by decide +kernel
theorem dX11_copy_46 : decode cX11_copy 46 = .ok (.invokestatic 134, 3) := by decide +kernel
theorem dX11_copy_49 : decode cX11_copy 49 = .ok (.aload_n 0, 1) := by decide +kernel
theorem dX11_copy_50 : decode cX11_copy 50 = .ok (.getfield 17, 3) := by decide +kernel
theorem dX11_copy_53 : decode cX11_copy 53 = .ok (.iconst 1, 1) := by decide +kernel
theorem dX11_copy_54 : decode cX11_copy 54 = .ok (.iload_n 1, 1) := by decide +kernel
theorem dX11_copy_55 : decode cX11_copy 55 = .ok (.iload_n 2, 1) := by decide +kernel
theorem dX11_copy_56 : decode cX11_copy 56 = .ok (.invokestatic 134, 3) := by decide +kernel
theorem dX11_copy_59 : decode cX11_copy 59 = .ok (.aload_n 0, 1) := by decide +kernel
theorem dX11_copy_60 : decode cX11_copy 60 = .ok (.getfield 20, 3) := by decide +kernel
theorem dX11_copy_63 : decode cX11_copy 63 = .ok (.iconst 1, 1) := by decide +kernel
theorem dX11_copy_64 : decode cX11_copy 64 = .ok (.iload_n 1, 1) := by decide +kernel
theorem dX11_copy_65 : decode cX11_copy 65 = .ok (.iload_n 2, 1) := by decide +kernel
theorem dX11_copy_66 : decode cX11_copy 66 = .ok (.invokestatic 134, 3) := by decide +kernel
theorem dX11_copy_69 : decode cX11_copy 69 = .ok (.aload_n 0, 1) := by decide +kernel
theorem dX11_copy_70 : decode cX11_copy 70 = .ok (.getfield 23, 3) := by decide +kernel
theorem dX11_copy_73 : decode cX11_copy 73 = .ok (.iconst 1, 1) := by decide +kernel
theorem dX11_copy_74 : decode cX11_copy 74 = .ok (.iload_n 1, 1) := by decide +kernel
theorem dX11_copy_75 : decode cX11_copy 75 = .ok (.iload_n 2, 1) := by decide +kernel
theorem dX11_copy_76 : decode cX11_copy 76 = .ok (.invokestatic 134, 3) := by decide +kernel
theorem dX11_copy_79 : decode cX11_copy 79 = .ok (.aload_n 0, 1) := by decide +kernel
theorem dX11_copy_80 : decode cX11_copy 80 = .ok (.getfield 26, 3) := by decide +kernel
theorem dX11_copy_83 : decode cX11_copy 83 = .ok (.iconst 1, 1) := by decide +kernel
theorem dX11_copy_84 : decode cX11_copy 84 = .ok (.iload_n 1, 1) := by decide +kernel
theorem dX11_copy_85 : decode cX11_copy 85 = .ok (.iload_n 2, 1) := by decide +kernel
theorem dX11_copy_86 : decode cX11_copy 86 = .ok (.invokestatic 134, 3) := by decide +kernel
theorem dX11_copy_89 : decode cX11_copy 89 = .ok (.aload_n 0, 1) := by decide +kernel
theorem dX11_copy_90 : decode cX11_copy 90 = .ok (.getfield 29, 3) := by decide +kernel
theorem dX11_copy_93 : decode cX11_copy 93 = .ok (.iconst 1, 1) := by decide +kernel
theorem dX11_copy_94 : decode cX11_copy 94 = .ok (.iload_n 1, 1) := by decide +kernel
theorem dX11_copy_95 : decode cX11_copy 95 = .ok (.iload_n 2, 1) := by decide +kernel
theorem dX11_copy_96 : decode cX11_copy 96 = .ok (.invokestatic 134, 3) := by decide +kernel
theorem dX11_copy_99 : decode cX11_copy 99 = .ok (.aload_n 0, 1) := by decide +kernel
theorem dX11_copy_100 : decode cX11_copy 100 = .ok (.getfield 32, 3) := by decide +kernel
theorem dX11_copy_103 : decode cX11_copy 103 = .ok (.iconst 1, 1) := by decide +kernel
theorem dX11_copy_104 : decode cX11_copy 104 = .ok (.iload_n 1, 1) := by decide +kernel
theorem dX11_copy_105 : decode cX11_copy 105 = .ok (.iload_n 2, 1) := by decide +kernel
theorem dX11_copy_106 : decode cX11_copy 106 = .ok (.invokestatic 134, 3) := by decide +kernel
theorem dX11_copy_109 : decode cX11_copy 109 = .ok (.aload_n 0, 1) := by decide +kernel
theorem dX11_copy_110 : decode cX11_copy 110 = .ok (.getfield 35, 3) := by decide +kernel
theorem dX11_copy_113 : decode cX11_copy 113 = .ok (.sipush 1600, 3) := by decide +kernel
theorem dX11_copy_116 : decode cX11_copy 116 = .ok (.iload_n 1, 1) := by decide +kernel
theorem dX11_copy_117 : decode cX11_copy 117 = .ok (.iload_n 2, 1) := by decide +kernel
theorem dX11_copy_118 : decode cX11_copy 118 = .ok (.invokestatic 134, 3) := by decide +kernel
theorem dX11_copy_121 : decode cX11_copy 121 = .ok (.aload_n 0, 1) := by decide +kernel
theorem dX11_copy_122 : decode cX11_copy 122 = .ok (.getfield 38, 3) := by decide +kernel
theorem dX11_copy_125 : decode cX11_copy 125 = .ok (.bipush 96, 2) := by decide +kernel
theorem dX11_copy_127 : decode cX11_copy 127 = .ok (.iload_n 1, 1) := by decide +kernel
theorem dX11_copy_128 : decode cX11_copy 128 = .ok (.iload_n 2, 1) := by decide +kernel
theorem dX11_copy_129 : decode cX11_copy 129 = .ok (.invokestatic 134, 3) := by decide +kernel
theorem dX11_copy_132 : decode cX11_copy 132 = .ok (.aload_n 0, 1) := by decide +kernel
theorem dX11_copy_133 : decode cX11_copy 133 = .ok (.getfield 41, 3) := by decide +kernel
theorem dX11_copy_136 : decode cX11_copy 136 = .ok (.iconst 1, 1) := by decide +kernel
theorem dX11_copy_137 : decode cX11_copy 137 = .ok (.iload_n 1, 1) := by decide +kernel
theorem dX11_copy_138 : decode cX11_copy 138 = .ok (.iload_n 2, 1) := by decide +kernel
theorem dX11_copy_139 : decode cX11_copy 139 = .ok (.invokestatic 134, 3) := by decide +kernel
theorem dX11_copy_142 : decode cX11_copy 142 = .ok (.aload_n 0, 1) := by decide +kernel
theorem dX11_copy_143 : decode cX11_copy 143 = .ok (.getfield 44, 3) := by decide +kernel
theorem dX11_copy_146 : decode cX11_copy 146 = .ok (.iconst 1, 1) := by decide +kernel
theorem dX11_copy_147 : decode cX11_copy 147 = .ok (.iload_n 1, 1) := by decide +kernel
theorem dX11_copy_148 : decode cX11_copy 148 = .ok (.iload_n 2, 1) := by decide +kernel
theorem dX11_copy_149 : decode cX11_copy 149 = .ok (.invokestatic 134, 3) := by decide +kernel
theorem dX11_copy_152 : decode cX11_copy 152 = .ok (.aload_n 0, 1) := by decide +kernel
theorem dX11_copy_153 : decode cX11_copy 153 = .ok (.getfield 47, 3) := by decide +kernel
theorem dX11_copy_156 : decode cX11_copy 156 = .ok (.iconst 2, 1) := by decide +kernel
theorem dX11_copy_157 : decode cX11_copy 157 = .ok (.iload_n 1, 1) := by decide +kernel
theorem dX11_copy_158 : decode cX11_copy 158 = .ok (.iload_n 2, 1) := by decide +kernel
theorem dX11_copy_159 : decode cX11_copy 159 = .ok (.invokestatic 134, 3) := by decide +kernel
theorem dX11_copy_162 : decode cX11_copy 162 = .ok (.aload_n 0, 1) := by decide +kernel
theorem dX11_copy_163 : decode cX11_copy 163 = .ok (.getfield 50, 3) := by decide +kernel
theorem dX11_copy_166 : decode cX11_copy 166 = .ok (.iconst 1, 1) := by decide +kernel
theorem dX11_copy_167 : decode cX11_copy 167 = .ok (.iload_n 1, 1) := by decide +kernel
theorem dX11_copy_168 : decode cX11_copy 168 = .ok (.iload_n 2, 1) := by decide +kernel
theorem dX11_copy_169 : decode cX11_copy 169 = .ok (.invokestatic 134, 3) := by decide +kernel
theorem dX11_copy_172 : decode cX11_copy 172 = .ok (.aload_n 0, 1) := by decide +kernel
theorem dX11_copy_173 : decode cX11_copy 173 = .ok (.getfield 53, 3) := by decide +kernel
theorem dX11_copy_176 : decode cX11_copy 176 = .ok (.iconst 2, 1) := by decide +kernel
theorem dX11_copy_177 : decode cX11_copy 177 = .ok (.iload_n 1, 1) := by decide +kernel
theorem dX11_copy_178 : decode cX11_copy 178 = .ok (.iload_n 2, 1) := by decide +kernel
theorem dX11_copy_179 : decode cX11_copy 179 = .ok (.invokestatic 134, 3) := by decide +kernel
theorem dX11_copy_182 : decode cX11_copy 182 = .ok (.aload_n 0, 1) := by decide +kernel
theorem dX11_copy_183 : decode cX11_copy 183 = .ok (.getfield 56, 3) := by decide +kernel
theorem dX11_copy_186 : decode cX11_copy 186 = .ok (.bipush 32, 2) := by decide +kernel
theorem dX11_copy_188 : decode cX11_copy 188 = .ok (.iload_n 1, 1) := by decide +kernel
theorem dX11_copy_189 : decode cX11_copy 189 = .ok (.iload_n 2, 1) := by decide +kernel
theorem dX11_copy_190 : decode cX11_copy 190 = .ok (.invokestatic 134, 3) := by decide +kernel
theorem dX11_copy_193 : decode cX11_copy 193 = .ok (.aload_n 0, 1) := by decide +kernel
theorem dX11_copy_194 : decode cX11_copy 194 = .ok (.getfield 59, 3) := by decide +kernel
theorem dX11_copy_197 : decode cX11_copy 197 = .ok (.sipush 128, 3) := by decide +kernel
theorem dX11_copy_200 : decode cX11_copy 200 = .ok (.iload_n 1, 1) := by decide +kernel
theorem dX11_copy_201 : decode cX11_copy 201 = .ok (.iload_n 2, 1) := by decide +kernel
theorem dX11_copy_202 : decode cX11_copy 202 = .ok (.invokestatic 134, 3) := by decide +kernel
theorem dX11_copy_205 : decode cX11_copy 205 = .ok (.aload_n 0, 1) := by decide +kernel
theorem dX11_copy_206 : decode cX11_copy 206 = .ok (.getfield 62, 3) := by decide +kernel
theorem dX11_copy_209 : decode cX11_copy 209 = .ok (.sipush 128, 3) := by decide +kernel
theorem dX11_copy_212 : decode cX11_copy 212 = .ok (.iload_n 1, 1) := by decide +kernel
theorem dX11_copy_213 : decode cX11_copy 213 = .ok (.iload_n 2, 1) := by decide +kernel
theorem dX11_copy_214 : decode cX11_copy 214 = .ok (.invokestatic 134, 3) := by decide +kernel
theorem dX11_copy_217 : decode cX11_copy 217 = .ok (.aload_n 0, 1) := by decide +kernel
theorem dX11_copy_218 : decode cX11_copy 218 = .ok (.getfield 65, 3) := by decide +kernel
theorem dX11_copy_221 : decode cX11_copy 221 = .ok (.sipush 128, 3) := by decide +kernel
theorem dX11_copy_224 : decode cX11_copy 224 = .ok (.iload_n 1, 1) := by decide +kernel
theorem dX11_copy_225 : decode cX11_copy 225 = .ok (.iload_n 2, 1) := by decide +kernel
theorem dX11_copy_226 : decode cX11_copy 226 = .ok (.invokestatic 134, 3) := by decide +kernel
theorem dX11_copy_229 : decode cX11_copy 229 = .ok (.aload_n 0, 1) := by decide +kernel
theorem dX11_copy_230 : decode cX11_copy 230 = .ok (.getfield 68, 3) := by decide +kernel
theorem dX11_copy_233 : decode cX11_copy 233 = .ok (.bipush 32, 2) := by decide +kernel
theorem dX11_copy_235 : decode cX11_copy 235 = .ok (.iload_n 1, 1) := by decide +kernel
theorem dX11_copy_236 : decode cX11_copy 236 = .ok (.iload_n 2, 1) := by decide +kernel
theorem dX11_copy_237 : decode cX11_copy 237 = .ok (.invokestatic 134, 3) := by decide +kernel
theorem dX11_copy_240 : decode cX11_copy 240 = .ok (.aload_n 0, 1) := by decide +kernel
theorem dX11_copy_241 : decode cX11_copy 241 = .ok (.getfield 71, 3) := by decide +kernel
theorem dX11_copy_244 : decode cX11_copy 244 = .ok (.bipush 32, 2) := by decide +kernel
theorem dX11_copy_246 : decode cX11_copy 246 = .ok (.iload_n 1, 1) := by decide +kernel
theorem dX11_copy_247 : decode cX11_copy 247 = .ok (.iload_n 2, 1) := by decide +kernel
theorem dX11_copy_248 : decode cX11_copy 248 = .ok (.invokestatic 134, 3) := by decide +kernel
theorem dX11_copy_251 : decode cX11_copy 251 = .ok (.aload_n 0, 1) := by decide +kernel
end
section
theorem dX11_copy_252 : decode cX11_copy 252 = .ok (.getfield 74, 3) := by decide +kernel
theorem dX11_copy_255 : decode cX11_copy 255 = .ok (.bipush 32, 2) := by decide +kernel
theorem dX11_copy_257 : decode cX11_copy 257 = .ok (.iload_n 1, 1) := by decide +kernel
theorem dX11_copy_258 : decode cX11_copy 258 = .ok (.iload_n 2, 1) := by decide +kernel
theorem dX11_copy_259 : decode cX11_copy 259 = .ok (.invokestatic 134, 3) := by decide +kernel
theorem dX11_copy_262 : decode cX11_copy 262 = .ok (.return_, 1) := by decide +kernel
theorem dX11_enter_0 : decode cX11_enter 0 = .ok (.iconst 4, 1) := by decide +kernel
theorem dX11_enter_1 : decode cX11_enter 1 = .ok (.aload_n 0, 1) := by decide +kernel
theorem dX11_enter_2 : decode cX11_enter 2 = .ok (.getfield 32, 3) := by decide +kernel
theorem dX11_enter_5 : decode cX11_enter 5 = .ok (.iconst 0, 1) := by decide +kernel
theorem dX11_enter_6 : decode cX11_enter 6 = .ok (.iaload, 1) := by decide +kernel
theorem dX11_enter_7 : decode cX11_enter 7 = .ok (.imul, 1) := by decide +kernel
theorem dX11_enter_8 : decode cX11_enter 8 = .ok (.istore 4, 2) := by decide +kernel
theorem dX11_enter_10 : decode cX11_enter 10 = .ok (.aload_n 0, 1) := by decide +kernel
theorem dX11_enter_11 : decode cX11_enter 11 = .ok (.getfield 35, 3) := by decide +kernel
theorem dX11_enter_14 : decode cX11_enter 14 = .ok (.iload 4, 2) := by decide +kernel
theorem dX11_enter_16 : decode cX11_enter 16 = .ok (.aload_n 0, 1) := by decide +kernel
theorem dX11_enter_17 : decode cX11_enter 17 = .ok (.getfield 26, 3) := by decide +kernel
theorem dX11_enter_20 : decode cX11_enter 20 = .ok (.iconst 0, 1) := by decide +kernel
theorem dX11_enter_21 : decode cX11_enter 21 = .ok (.iaload, 1) := by decide +kernel
theorem dX11_enter_22 : decode cX11_enter 22 = .ok (.iastore, 1) := by decide +kernel
theorem dX11_enter_23 : decode cX11_enter 23 = .ok (.aload_n 0, 1) := by decide +kernel
theorem dX11_enter_24 : decode cX11_enter 24 = .ok (.getfield 35, 3) := by decide +kernel
theorem dX11_enter_27 : decode cX11_enter 27 = .ok (.iload 4, 2) := by decide +kernel
theorem dX11_enter_29 : decode cX11_enter 29 = .ok (.iconst 1, 1) := by decide +kernel
theorem dX11_enter_30 : decode cX11_enter 30 = .ok (.iadd, 1) := by decide +kernel
theorem dX11_enter_31 : decode cX11_enter 31 = .ok (.iload_n 1, 1) := by decide +kernel
theorem dX11_enter_32 : decode cX11_enter 32 = .ok (.iastore, 1) := by decide +kernel
theorem dX11_enter_33 : decode cX11_enter 33 = .ok (.aload_n 0, 1) := by decide +kernel
theorem dX11_enter_34 : decode cX11_enter 34 = .ok (.getfield 35, 3) := by decide +kernel
theorem dX11_enter_37 : decode cX11_enter 37 = .ok (.iload 4, 2) := by decide +kernel
theorem dX11_enter_39 : decode cX11_enter 39 = .ok (.iconst 2, 1) := by decide +kernel
theorem dX11_enter_40 : decode cX11_enter 40 = .ok (.iadd, 1) := by decide +kernel
theorem dX11_enter_41 : decode cX11_enter 41 = .ok (.iload_n 2, 1) := by decide +kernel
theorem dX11_enter_42 : decode cX11_enter 42 = .ok (.iastore, 1) := by decide +kernel
theorem dX11_enter_43 : decode cX11_enter 43 = .ok (.aload_n 0, 1) := by decide +kernel
theorem dX11_enter_44 : decode cX11_enter 44 = .ok (.getfield 35, 3) := by decide +kernel
theorem dX11_enter_47 : decode cX11_enter 47 = .ok (.iload 4, 2) := by decide +kernel
theorem dX11_enter_49 : decode cX11_enter 49 = .ok (.iconst 3, 1) := by decide +kernel
theorem dX11_enter_50 : decode cX11_enter 50 = .ok (.iadd, 1) := by decide +kernel
theorem dX11_enter_51 : decode cX11_enter 51 = .ok (.iload_n 3, 1) := by decide +kernel
theorem dX11_enter_52 : decode cX11_enter 52 = .ok (.iastore, 1) := by decide +kernel
theorem dX11_enter_53 : decode cX11_enter 53 = .ok (.aload_n 0, 1) := by decide +kernel
theorem dX11_enter_54 : decode cX11_enter 54 = .ok (.getfield 32, 3) := by decide +kernel
theorem dX11_enter_57 : decode cX11_enter 57 = .ok (.iconst 0, 1) := by decide +kernel
theorem dX11_enter_58 : decode cX11_enter 58 = .ok (.dup2, 1) := by decide +kernel
theorem dX11_enter_59 : decode cX11_enter 59 = .ok (.iaload, 1) := by decide +kernel
theorem dX11_enter_60 : decode cX11_enter 60 = .ok (.iconst 1, 1) := by decide +kernel
theorem dX11_enter_61 : decode cX11_enter 61 = .ok (.iadd, 1) := by decide +kernel
theorem dX11_enter_62 : decode cX11_enter 62 = .ok (.iastore, 1) := by decide +kernel
theorem dX11_enter_63 : decode cX11_enter 63 = .ok (.return_, 1) := by decide +kernel
theorem dX11_factOn_0 : decode cX11_factOn 0 = .ok (.iload_n 2, 1) := by decide +kernel
theorem dX11_factOn_1 : decode cX11_factOn 1 = .ok (.iconst 1, 1) := by decide +kernel
theorem dX11_factOn_2 : decode cX11_factOn 2 = .ok (.if_icmp .ne 16, 3) := by decide +kernel
theorem dX11_factOn_5 : decode cX11_factOn 5 = .ok (.aload_n 0, 1) := by decide +kernel
theorem dX11_factOn_6 : decode cX11_factOn 6 = .ok (.getfield 38, 3) := by decide +kernel
theorem dX11_factOn_9 : decode cX11_factOn 9 = .ok (.iconst 3, 1) := by decide +kernel
theorem dX11_factOn_10 : decode cX11_factOn 10 = .ok (.iload_n 1, 1) := by decide +kernel
theorem dX11_factOn_11 : decode cX11_factOn 11 = .ok (.imul, 1) := by decide +kernel
theorem dX11_factOn_12 : decode cX11_factOn 12 = .ok (.iconst 1, 1) := by decide +kernel
theorem dX11_factOn_13 : decode cX11_factOn 13 = .ok (.iadd, 1) := by decide +kernel
theorem dX11_factOn_14 : decode cX11_factOn 14 = .ok (.iaload, 1) := by decide +kernel
theorem dX11_factOn_15 : decode cX11_factOn 15 = .ok (.goto 55, 3) := by decide +kernel
theorem dX11_factOn_18 : decode cX11_factOn 18 = .ok (.iload_n 2, 1) := by decide +kernel
theorem dX11_factOn_19 : decode cX11_factOn 19 = .ok (.iconst 4, 1) := by decide +kernel
theorem dX11_factOn_20 : decode cX11_factOn 20 = .ok (.if_icmp .ne 16, 3) := by decide +kernel
theorem dX11_factOn_23 : decode cX11_factOn 23 = .ok (.aload_n 0, 1) := by decide +kernel
theorem dX11_factOn_24 : decode cX11_factOn 24 = .ok (.getfield 38, 3) := by decide +kernel
theorem dX11_factOn_27 : decode cX11_factOn 27 = .ok (.iconst 3, 1) := by decide +kernel
theorem dX11_factOn_28 : decode cX11_factOn 28 = .ok (.iload_n 1, 1) := by decide +kernel
theorem dX11_factOn_29 : decode cX11_factOn 29 = .ok (.imul, 1) := by decide +kernel
theorem dX11_factOn_30 : decode cX11_factOn 30 = .ok (.iconst 2, 1) := by decide +kernel
theorem dX11_factOn_31 : decode cX11_factOn 31 = .ok (.iadd, 1) := by decide +kernel
theorem dX11_factOn_32 : decode cX11_factOn 32 = .ok (.iaload, 1) := by decide +kernel
theorem dX11_factOn_33 : decode cX11_factOn 33 = .ok (.goto 37, 3) := by decide +kernel
theorem dX11_factOn_36 : decode cX11_factOn 36 = .ok (.iload_n 2, 1) := by decide +kernel
theorem dX11_factOn_37 : decode cX11_factOn 37 = .ok (.iconst 5, 1) := by decide +kernel
theorem dX11_factOn_38 : decode cX11_factOn 38 = .ok (.if_icmp .ne 9, 3) := by decide +kernel
theorem dX11_factOn_41 : decode cX11_factOn 41 = .ok (.sipush (-3000), 3) := by decide +kernel
theorem dX11_factOn_44 : decode cX11_factOn 44 = .ok (.goto 26, 3) := by decide +kernel
theorem dX11_factOn_47 : decode cX11_factOn 47 = .ok (.iload_n 2, 1) := by decide +kernel
theorem dX11_factOn_48 : decode cX11_factOn 48 = .ok (.bipush 6, 2) := by decide +kernel
theorem dX11_factOn_50 : decode cX11_factOn 50 = .ok (.if_icmp .ne 9, 3) := by decide +kernel
theorem dX11_factOn_53 : decode cX11_factOn 53 = .ok (.sipush 1900, 3) := by decide +kernel
theorem dX11_factOn_56 : decode cX11_factOn 56 = .ok (.goto 14, 3) := by decide +kernel
theorem dX11_factOn_59 : decode cX11_factOn 59 = .ok (.iload_n 2, 1) := by decide +kernel
theorem dX11_factOn_60 : decode cX11_factOn 60 = .ok (.bipush 9, 2) := by decide +kernel
theorem dX11_factOn_62 : decode cX11_factOn 62 = .ok (.if_icmp .ne 7, 3) := by decide +kernel
theorem dX11_factOn_65 : decode cX11_factOn 65 = .ok (.iconst 1, 1) := by decide +kernel
theorem dX11_factOn_66 : decode cX11_factOn 66 = .ok (.goto 4, 3) := by decide +kernel
theorem dX11_factOn_69 : decode cX11_factOn 69 = .ok (.iconst 0, 1) := by decide +kernel
theorem dX11_factOn_70 : decode cX11_factOn 70 = .ok (.istore 4, 2) := by decide +kernel
theorem dX11_factOn_72 : decode cX11_factOn 72 = .ok (.iconst 0, 1) := by decide +kernel
theorem dX11_factOn_73 : decode cX11_factOn 73 = .ok (.istore 5, 2) := by decide +kernel
theorem dX11_factOn_75 : decode cX11_factOn 75 = .ok (.iload 5, 2) := by decide +kernel
theorem dX11_factOn_77 : decode cX11_factOn 77 = .ok (.aload_n 0, 1) := by decide +kernel
theorem dX11_factOn_78 : decode cX11_factOn 78 = .ok (.getfield 32, 3) := by decide +kernel
theorem dX11_factOn_81 : decode cX11_factOn 81 = .ok (.iconst 0, 1) := by decide +kernel
theorem dX11_factOn_82 : decode cX11_factOn 82 = .ok (.iaload, 1) := by decide +kernel
theorem dX11_factOn_83 : decode cX11_factOn 83 = .ok (.if_icmp .ge 92, 3) := by decide +kernel
theorem dX11_factOn_86 : decode cX11_factOn 86 = .ok (.iconst 4, 1) := by decide +kernel
theorem dX11_factOn_87 : decode cX11_factOn 87 = .ok (.iload 5, 2) := by decide +kernel
theorem dX11_factOn_89 : decode cX11_factOn 89 = .ok (.imul, 1) := by decide +kernel
theorem dX11_factOn_90 : decode cX11_factOn 90 = .ok (.istore 6, 2) := by decide +kernel
theorem dX11_factOn_92 : decode cX11_factOn 92 = .ok (.aload_n 0, 1) := by decide +kernel
theorem dX11_factOn_93 : decode cX11_factOn 93 = .ok (.getfield 35, 3) := by decide +kernel
theorem dX11_factOn_96 : decode cX11_factOn 96 = .ok (.iload 6, 2) := by decide +kernel
theorem dX11_factOn_98 : decode cX11_factOn 98 = .ok (.iconst 1, 1) := by decide +kernel
theorem dX11_factOn_99 : decode cX11_factOn 99 = .ok (.iadd, 1) := by decide +kernel
theorem dX11_factOn_100 : decode cX11_factOn 100 = .ok (.iaload, 1) := by decide +kernel
theorem dX11_factOn_101 : decode cX11_factOn 101 = .ok (.iload_n 1, 1) := by decide +kernel
theorem dX11_factOn_102 : decode cX11_factOn 102 = .ok (.if_icmp .ne 18, 3) := by decide +kernel
theorem dX11_factOn_105 : decode cX11_factOn 105 = .ok (.aload_n 0, 1) := by decide +kernel
theorem dX11_factOn_106 : decode cX11_factOn 106 = .ok (.getfield 35, 3) := by decide +kernel
theorem dX11_factOn_109 : decode cX11_factOn 109 = .ok (.iload 6, 2) := by decide +kernel
theorem dX11_factOn_111 : decode cX11_factOn 111 = .ok (.iaload, 1) := by decide +kernel
theorem dX11_factOn_112 : decode cX11_factOn 112 = .ok (.iload_n 3, 1) := by decide +kernel
theorem dX11_factOn_113 : decode cX11_factOn 113 = .ok (.if_icmp .gt 7, 3) := by decide +kernel
theorem dX11_factOn_116 : decode cX11_factOn 116 = .ok (.iconst 1, 1) := by decide +kernel
theorem dX11_factOn_117 : decode cX11_factOn 117 = .ok (.goto 4, 3) := by decide +kernel
theorem dX11_factOn_120 : decode cX11_factOn 120 = .ok (.iconst 0, 1) := by decide +kernel
theorem dX11_factOn_121 : decode cX11_factOn 121 = .ok (.istore 7, 2) := by decide +kernel
theorem dX11_factOn_123 : decode cX11_factOn 123 = .ok (.iload 7, 2) := by decide +kernel
theorem dX11_factOn_125 : decode cX11_factOn 125 = .ok (.ifCond .eq 44, 3) := by decide +kernel
theorem dX11_factOn_128 : decode cX11_factOn 128 = .ok (.aload_n 0, 1) := by decide +kernel
theorem dX11_factOn_129 : decode cX11_factOn 129 = .ok (.getfield 35, 3) := by decide +kernel
theorem dX11_factOn_132 : decode cX11_factOn 132 = .ok (.iload 6, 2) := by decide +kernel
theorem dX11_factOn_134 : decode cX11_factOn 134 = .ok (.iconst 2, 1) := by decide +kernel
theorem dX11_factOn_135 : decode cX11_factOn 135 = .ok (.iadd, 1) := by decide +kernel
theorem dX11_factOn_136 : decode cX11_factOn 136 = .ok (.iaload, 1) := by decide +kernel
theorem dX11_factOn_137 : decode cX11_factOn 137 = .ok (.iload_n 2, 1) := by decide +kernel
theorem dX11_factOn_138 : decode cX11_factOn 138 = .ok (.if_icmp .eq 20, 3) := by decide +kernel
theorem dX11_factOn_141 : decode cX11_factOn 141 = .ok (.aload_n 0, 1) := by decide +kernel
theorem dX11_factOn_142 : decode cX11_factOn 142 = .ok (.getfield 35, 3) := by decide +kernel
theorem dX11_factOn_145 : decode cX11_factOn 145 = .ok (.iload 6, 2) := by decide +kernel
theorem dX11_factOn_147 : decode cX11_factOn 147 = .ok (.iconst 2, 1) := by decide +kernel
theorem dX11_factOn_148 : decode cX11_factOn 148 = .ok (.iadd, 1) := by decide +kernel
theorem dX11_factOn_149 : decode cX11_factOn 149 = .ok (.iaload, 1) := by decide +kernel
theorem dX11_factOn_150 : decode cX11_factOn 150 = .ok (.iconst (-1), 1) := by decide +kernel
theorem dX11_factOn_151 : decode cX11_factOn 151 = .ok (.if_icmp .ne 18, 3) := by decide +kernel
theorem dX11_factOn_154 : decode cX11_factOn 154 = .ok (.iload_n 2, 1) := by decide +kernel
theorem dX11_factOn_155 : decode cX11_factOn 155 = .ok (.ifCond .ne 14, 3) := by decide +kernel
theorem dX11_factOn_158 : decode cX11_factOn 158 = .ok (.aload_n 0, 1) := by decide +kernel
theorem dX11_factOn_159 : decode cX11_factOn 159 = .ok (.getfield 35, 3) := by decide +kernel
theorem dX11_factOn_162 : decode cX11_factOn 162 = .ok (.iload 6, 2) := by decide +kernel
theorem dX11_factOn_164 : decode cX11_factOn 164 = .ok (.iconst 3, 1) := by decide +kernel
theorem dX11_factOn_165 : decode cX11_factOn 165 = .ok (.iadd, 1) := by decide +kernel
theorem dX11_factOn_166 : decode cX11_factOn 166 = .ok (.iaload, 1) := by decide +kernel
theorem dX11_factOn_167 : decode cX11_factOn 167 = .ok (.istore 4, 2) := by decide +kernel
theorem dX11_factOn_169 : decode cX11_factOn 169 = .ok (.iinc 5 1, 3) := by decide +kernel
theorem dX11_factOn_172 : decode cX11_factOn 172 = .ok (.goto (-97), 3) := by decide +kernel
theorem dX11_factOn_175 : decode cX11_factOn 175 = .ok (.iload 4, 2) := by decide +kernel
theorem dX11_factOn_177 : decode cX11_factOn 177 = .ok (.ireturn, 1) := by decide +kernel
theorem dX11_dayOfView_0 : decode cX11_dayOfView 0 = .ok (.aload_n 0, 1) := by decide +kernel
theorem dX11_dayOfView_1 : decode cX11_dayOfView 1 = .ok (.getfield 29, 3) := by decide +kernel
theorem dX11_dayOfView_4 : decode cX11_dayOfView 4 = .ok (.iconst 0, 1) := by decide +kernel
theorem dX11_dayOfView_5 : decode cX11_dayOfView 5 = .ok (.iaload, 1) := by decide +kernel
theorem dX11_dayOfView_6 : decode cX11_dayOfView 6 = .ok (.iconst (-1), 1) := by decide +kernel
theorem dX11_dayOfView_7 : decode cX11_dayOfView 7 = .ok (.if_icmp .ne 12, 3) := by decide +kernel
theorem dX11_dayOfView_10 : decode cX11_dayOfView 10 = .ok (.aload_n 0, 1) := by decide +kernel
theorem dX11_dayOfView_11 : decode cX11_dayOfView 11 = .ok (.getfield 26, 3) := by decide +kernel
theorem dX11_dayOfView_14 : decode cX11_dayOfView 14 = .ok (.iconst 0, 1) := by decide +kernel
theorem dX11_dayOfView_15 : decode cX11_dayOfView 15 = .ok (.iaload, 1) := by decide +kernel
theorem dX11_dayOfView_16 : decode cX11_dayOfView 16 = .ok (.goto 9, 3) := by decide +kernel
theorem dX11_dayOfView_19 : decode cX11_dayOfView 19 = .ok (.aload_n 0, 1) := by decide +kernel
theorem dX11_dayOfView_20 : decode cX11_dayOfView 20 = .ok (.getfield 29, 3) := by decide +kernel
theorem dX11_dayOfView_23 : decode cX11_dayOfView 23 = .ok (.iconst 0, 1) := by decide +kernel
theorem dX11_dayOfView_24 : decode cX11_dayOfView 24 = .ok (.iaload, 1) := by decide +kernel
theorem dX11_dayOfView_25 : decode cX11_dayOfView 25 = .ok (.ireturn, 1) := by decide +kernel
theorem dX11_isStone_0 : decode cX11_isStone 0 = .ok (.iload_n 1, 1) := by decide +kernel
theorem dX11_isStone_1 : decode cX11_isStone 1 = .ok (.iconst 0, 1) := by decide +kernel
theorem dX11_isStone_2 : decode cX11_isStone 2 = .ok (.aload_n 0, 1) := by decide +kernel
theorem dX11_isStone_3 : decode cX11_isStone 3 = .ok (.getfield 23, 3) := by decide +kernel
theorem dX11_isStone_6 : decode cX11_isStone 6 = .ok (.iconst 0, 1) := by decide +kernel
theorem dX11_isStone_7 : decode cX11_isStone 7 = .ok (.iaload, 1) := by decide +kernel
theorem dX11_isStone_8 : decode cX11_isStone 8 = .ok (.iconst 1, 1) := by decide +kernel
theorem dX11_isStone_9 : decode cX11_isStone 9 = .ok (.isub, 1) := by decide +kernel
theorem dX11_isStone_10 : decode cX11_isStone 10 = .ok (.invokestatic 138, 3) := by decide +kernel
theorem dX11_isStone_13 : decode cX11_isStone 13 = .ok (.ifCond .eq 22, 3) := by decide +kernel
theorem dX11_isStone_16 : decode cX11_isStone 16 = .ok (.aload_n 0, 1) := by decide +kernel
theorem dX11_isStone_17 : decode cX11_isStone 17 = .ok (.getfield 38, 3) := by decide +kernel
theorem dX11_isStone_20 : decode cX11_isStone 20 = .ok (.iconst 3, 1) := by decide +kernel
theorem dX11_isStone_21 : decode cX11_isStone 21 = .ok (.iload_n 1, 1) := by decide +kernel
theorem dX11_isStone_22 : decode cX11_isStone 22 = .ok (.imul, 1) := by decide +kernel
theorem dX11_isStone_23 : decode cX11_isStone 23 = .ok (.iaload, 1) := by decide +kernel
theorem dX11_isStone_24 : decode cX11_isStone 24 = .ok (.aload_n 0, 1) := by decide +kernel
theorem dX11_isStone_25 : decode cX11_isStone 25 = .ok (.invokevirtual 142, 3) := by decide +kernel
theorem dX11_isStone_28 : decode cX11_isStone 28 = .ok (.if_icmp .gt 7, 3) := by decide +kernel
theorem dX11_isStone_31 : decode cX11_isStone 31 = .ok (.iconst 1, 1) := by decide +kernel
theorem dX11_isStone_32 : decode cX11_isStone 32 = .ok (.goto 4, 3) := by decide +kernel
theorem dX11_isStone_35 : decode cX11_isStone 35 = .ok (.iconst 0, 1) := by decide +kernel
theorem dX11_isStone_36 : decode cX11_isStone 36 = .ok (.ireturn, 1) := by decide +kernel
theorem dX11_stone_0 : decode cX11_stone 0 = .ok (.aload_n 0, 1) := by decide +kernel
theorem dX11_stone_1 : decode cX11_stone 1 = .ok (.iconst 0, 1) := by decide +kernel
theorem dX11_stone_2 : decode cX11_stone 2 = .ok (.putfield 130, 3) := by decide +kernel
theorem dX11_stone_5 : decode cX11_stone 5 = .ok (.aload_n 0, 1) := by decide +kernel
theorem dX11_stone_6 : decode cX11_stone 6 = .ok (.getfield 23, 3) := by decide +kernel
theorem dX11_stone_9 : decode cX11_stone 9 = .ok (.iconst 0, 1) := by decide +kernel
theorem dX11_stone_10 : decode cX11_stone 10 = .ok (.iaload, 1) := by decide +kernel
theorem dX11_stone_11 : decode cX11_stone 11 = .ok (.bipush 32, 2) := by decide +kernel
theorem dX11_stone_13 : decode cX11_stone 13 = .ok (.if_icmp .eq 44, 3) := by decide +kernel
theorem dX11_stone_16 : decode cX11_stone 16 = .ok (.aload_n 0, 1) := by decide +kernel
theorem dX11_stone_17 : decode cX11_stone 17 = .ok (.getfield 32, 3) := by decide +kernel
theorem dX11_stone_20 : decode cX11_stone 20 = .ok (.iconst 0, 1) := by decide +kernel
theorem dX11_stone_21 : decode cX11_stone 21 = .ok (.iaload, 1) := by decide +kernel
theorem dX11_stone_22 : decode cX11_stone 22 = .ok (.sipush 400, 3) := by decide +kernel
theorem dX11_stone_25 : decode cX11_stone 25 = .ok (.if_icmp .eq 32, 3) := by decide +kernel
theorem dX11_stone_28 : decode cX11_stone 28 = .ok (.iload_n 1, 1) := by decide +kernel
theorem dX11_stone_29 : decode cX11_stone 29 = .ok (.iconst 1, 1) := by decide +kernel
theorem dX11_stone_30 : decode cX11_stone 30 = .ok (.sipush 30000, 3) := by decide +kernel
theorem dX11_stone_33 : decode cX11_stone 33 = .ok (.invokestatic 138, 3) := by decide +kernel
theorem dX11_stone_36 : decode cX11_stone 36 = .ok (.ifCond .eq 21, 3) := by decide +kernel
theorem dX11_stone_39 : decode cX11_stone 39 = .ok (.iload_n 2, 1) := by decide +kernel
theorem dX11_stone_40 : decode cX11_stone 40 = .ok (.iconst 0, 1) := by decide +kernel
theorem dX11_stone_41 : decode cX11_stone 41 = .ok (.iconst 4, 1) := by decide +kernel
theorem dX11_stone_42 : decode cX11_stone 42 = .ok (.invokestatic 138, 3) := by decide +kernel
theorem dX11_stone_45 : decode cX11_stone 45 = .ok (.ifCond .eq 12, 3) := by decide +kernel
theorem dX11_stone_48 : decode cX11_stone 48 = .ok (.iload_n 3, 1) := by decide +kernel
theorem dX11_stone_49 : decode cX11_stone 49 = .ok (.iconst 0, 1) := by decide +kernel
theorem dX11_stone_50 : decode cX11_stone 50 = .ok (.iconst 5, 1) := by decide +kernel
theorem dX11_stone_51 : decode cX11_stone 51 = .ok (.invokestatic 138, 3) := by decide +kernel
theorem dX11_stone_54 : decode cX11_stone 54 = .ok (.ifCond .ne 5, 3) := by decide +kernel
theorem dX11_stone_57 : decode cX11_stone 57 = .ok (.iconst (-1), 1) := by decide +kernel
theorem dX11_stone_58 : decode cX11_stone 58 = .ok (.ireturn, 1) := by decide +kernel
theorem dX11_stone_59 : decode cX11_stone 59 = .ok (.aload_n 0, 1) := by decide +kernel
theorem dX11_stone_60 : decode cX11_stone 60 = .ok (.getfield 23, 3) := by decide +kernel
theorem dX11_stone_63 : decode cX11_stone 63 = .ok (.iconst 0, 1) := by decide +kernel
theorem dX11_stone_64 : decode cX11_stone 64 = .ok (.iaload, 1) := by decide +kernel
theorem dX11_stone_65 : decode cX11_stone 65 = .ok (.istore 4, 2) := by decide +kernel
theorem dX11_stone_67 : decode cX11_stone 67 = .ok (.aload_n 0, 1) := by decide +kernel
theorem dX11_stone_68 : decode cX11_stone 68 = .ok (.getfield 38, 3) := by decide +kernel
theorem dX11_stone_71 : decode cX11_stone 71 = .ok (.iconst 3, 1) := by decide +kernel
theorem dX11_stone_72 : decode cX11_stone 72 = .ok (.iload 4, 2) := by decide +kernel
theorem dX11_stone_74 : decode cX11_stone 74 = .ok (.imul, 1) := by decide +kernel
theorem dX11_stone_75 : decode cX11_stone 75 = .ok (.aload_n 0, 1) := by decide +kernel
theorem dX11_stone_76 : decode cX11_stone 76 = .ok (.getfield 26, 3) := by decide +kernel
theorem dX11_stone_79 : decode cX11_stone 79 = .ok (.iconst 0, 1) := by decide +kernel
theorem dX11_stone_80 : decode cX11_stone 80 = .ok (.iaload, 1) := by decide +kernel
theorem dX11_stone_81 : decode cX11_stone 81 = .ok (.iastore, 1) := by decide +kernel
theorem dX11_stone_82 : decode cX11_stone 82 = .ok (.aload_n 0, 1) := by decide +kernel
theorem dX11_stone_83 : decode cX11_stone 83 = .ok (.getfield 38, 3) := by decide +kernel
theorem dX11_stone_86 : decode cX11_stone 86 = .ok (.iconst 3, 1) := by decide +kernel
theorem dX11_stone_87 : decode cX11_stone 87 = .ok (.iload 4, 2) := by decide +kernel
theorem dX11_stone_89 : decode cX11_stone 89 = .ok (.imul, 1) := by decide +kernel
theorem dX11_stone_90 : decode cX11_stone 90 = .ok (.iconst 1, 1) := by decide +kernel
theorem dX11_stone_91 : decode cX11_stone 91 = .ok (.iadd, 1) := by decide +kernel
theorem dX11_stone_92 : decode cX11_stone 92 = .ok (.iload_n 2, 1) := by decide +kernel
theorem dX11_stone_93 : decode cX11_stone 93 = .ok (.iastore, 1) := by decide +kernel
theorem dX11_stone_94 : decode cX11_stone 94 = .ok (.aload_n 0, 1) := by decide +kernel
theorem dX11_stone_95 : decode cX11_stone 95 = .ok (.getfield 38, 3) := by decide +kernel
theorem dX11_stone_98 : decode cX11_stone 98 = .ok (.iconst 3, 1) := by decide +kernel
theorem dX11_stone_99 : decode cX11_stone 99 = .ok (.iload 4, 2) := by decide +kernel
theorem dX11_stone_101 : decode cX11_stone 101 = .ok (.imul, 1) := by decide +kernel
theorem dX11_stone_102 : decode cX11_stone 102 = .ok (.iconst 2, 1) := by decide +kernel
theorem dX11_stone_103 : decode cX11_stone 103 = .ok (.iadd, 1) := by decide +kernel
theorem dX11_stone_104 : decode cX11_stone 104 = .ok (.iload_n 3, 1) := by decide +kernel
theorem dX11_stone_105 : decode cX11_stone 105 = .ok (.iastore, 1) := by decide +kernel
theorem dX11_stone_106 : decode cX11_stone 106 = .ok (.aload_n 0, 1) := by decide +kernel
theorem dX11_stone_107 : decode cX11_stone 107 = .ok (.getfield 23, 3) := by decide +kernel
theorem dX11_stone_110 : decode cX11_stone 110 = .ok (.iconst 0, 1) := by decide +kernel
theorem dX11_stone_111 : decode cX11_stone 111 = .ok (.dup2, 1) := by decide +kernel
theorem dX11_stone_112 : decode cX11_stone 112 = .ok (.iaload, 1) := by decide +kernel
theorem dX11_stone_113 : decode cX11_stone 113 = .ok (.iconst 1, 1) := by decide +kernel
theorem dX11_stone_114 : decode cX11_stone 114 = .ok (.iadd, 1) := by decide +kernel
theorem dX11_stone_115 : decode cX11_stone 115 = .ok (.iastore, 1) := by decide +kernel
theorem dX11_stone_116 : decode cX11_stone 116 = .ok (.aload_n 0, 1) := by decide +kernel
theorem dX11_stone_117 : decode cX11_stone 117 = .ok (.iload 4, 2) := by decide +kernel
theorem dX11_stone_119 : decode cX11_stone 119 = .ok (.iconst (-1), 1) := by decide +kernel
theorem dX11_stone_120 : decode cX11_stone 120 = .ok (.iload_n 1, 1) := by decide +kernel
theorem dX11_stone_121 : decode cX11_stone 121 = .ok (.invokevirtual 146, 3) := by decide +kernel
theorem dX11_stone_124 : decode cX11_stone 124 = .ok (.iload 4, 2) := by decide +kernel
theorem dX11_stone_126 : decode cX11_stone 126 = .ok (.ireturn, 1) := by decide +kernel
theorem dX11_canBe_0 : decode cX11_canBe 0 = .ok (.iload_n 2, 1) := by decide +kernel
theorem dX11_canBe_1 : decode cX11_canBe 1 = .ok (.tableswitch 218 0 10 #[59, 92, 99, 106, 139, 146, 167, 187, 195, 203, 210], 59) := by decide +kernel
theorem dX11_canBe_60 : decode cX11_canBe 60 = .ok (.iload_n 3, 1) := by decide +kernel
theorem dX11_canBe_61 : decode cX11_canBe 61 = .ok (.iconst 1, 1) := by decide +kernel
theorem dX11_canBe_62 : decode cX11_canBe 62 = .ok (.sipush 30000, 3) := by decide +kernel
theorem dX11_canBe_65 : decode cX11_canBe 65 = .ok (.invokestatic 138, 3) := by decide +kernel
theorem dX11_canBe_68 : decode cX11_canBe 68 = .ok (.ifCond .eq 23, 3) := by decide +kernel
theorem dX11_canBe_71 : decode cX11_canBe 71 = .ok (.iload_n 3, 1) := by decide +kernel
theorem dX11_canBe_72 : decode cX11_canBe 72 = .ok (.aload_n 0, 1) := by decide +kernel
theorem dX11_canBe_73 : decode cX11_canBe 73 = .ok (.iload_n 1, 1) := by decide +kernel
theorem dX11_canBe_74 : decode cX11_canBe 74 = .ok (.iconst 3, 1) := by decide +kernel
theorem dX11_canBe_75 : decode cX11_canBe 75 = .ok (.aload_n 0, 1) := by decide +kernel
theorem dX11_canBe_76 : decode cX11_canBe 76 = .ok (.getfield 26, 3) := by decide +kernel
theorem dX11_canBe_79 : decode cX11_canBe 79 = .ok (.iconst 0, 1) := by decide +kernel
theorem dX11_canBe_80 : decode cX11_canBe 80 = .ok (.iaload, 1) := by decide +kernel
theorem dX11_canBe_81 : decode cX11_canBe 81 = .ok (.invokevirtual 150, 3) := by decide +kernel
theorem dX11_canBe_84 : decode cX11_canBe 84 = .ok (.if_icmp .le 7, 3) := by decide +kernel
theorem dX11_canBe_87 : decode cX11_canBe 87 = .ok (.iconst 1, 1) := by decide +kernel
theorem dX11_canBe_88 : decode cX11_canBe 88 = .ok (.goto 4, 3) := by decide +kernel
theorem dX11_canBe_91 : decode cX11_canBe 91 = .ok (.iconst 0, 1) := by decide +kernel
theorem dX11_canBe_92 : decode cX11_canBe 92 = .ok (.ireturn, 1) := by decide +kernel
theorem dX11_canBe_93 : decode cX11_canBe 93 = .ok (.iload_n 3, 1) := by decide +kernel
theorem dX11_canBe_94 : decode cX11_canBe 94 = .ok (.iconst 0, 1) := by decide +kernel
theorem dX11_canBe_95 : decode cX11_canBe 95 = .ok (.iconst 4, 1) := by decide +kernel
theorem dX11_canBe_96 : decode cX11_canBe 96 = .ok (.invokestatic 138, 3) := by decide +kernel
theorem dX11_canBe_99 : decode cX11_canBe 99 = .ok (.ireturn, 1) := by decide +kernel
theorem dX11_canBe_100 : decode cX11_canBe 100 = .ok (.iload_n 3, 1) := by decide +kernel
theorem dX11_canBe_101 : decode cX11_canBe 101 = .ok (.iconst 0, 1) := by decide +kernel
theorem dX11_canBe_102 : decode cX11_canBe 102 = .ok (.iconst 3, 1) := by decide +kernel
theorem dX11_canBe_103 : decode cX11_canBe 103 = .ok (.invokestatic 138, 3) := by decide +kernel
theorem dX11_canBe_106 : decode cX11_canBe 106 = .ok (.ireturn, 1) := by decide +kernel
theorem dX11_canBe_107 : decode cX11_canBe 107 = .ok (.iload_n 3, 1) := by decide +kernel
theorem dX11_canBe_108 : decode cX11_canBe 108 = .ok (.iconst 0, 1) := by decide +kernel
theorem dX11_canBe_109 : decode cX11_canBe 109 = .ok (.sipush 2000, 3) := by decide +kernel
theorem dX11_canBe_112 : decode cX11_canBe 112 = .ok (.invokestatic 138, 3) := by decide +kernel
theorem dX11_canBe_115 : decode cX11_canBe 115 = .ok (.ifCond .eq 23, 3) := by decide +kernel
theorem dX11_canBe_118 : decode cX11_canBe 118 = .ok (.iload_n 3, 1) := by decide +kernel
theorem dX11_canBe_119 : decode cX11_canBe 119 = .ok (.aload_n 0, 1) := by decide +kernel
theorem dX11_canBe_120 : decode cX11_canBe 120 = .ok (.iload_n 1, 1) := by decide +kernel
theorem dX11_canBe_121 : decode cX11_canBe 121 = .ok (.iconst 0, 1) := by decide +kernel
theorem dX11_canBe_122 : decode cX11_canBe 122 = .ok (.aload_n 0, 1) := by decide +kernel
theorem dX11_canBe_123 : decode cX11_canBe 123 = .ok (.getfield 26, 3) := by decide +kernel
theorem dX11_canBe_126 : decode cX11_canBe 126 = .ok (.iconst 0, 1) := by decide +kernel
theorem dX11_canBe_127 : decode cX11_canBe 127 = .ok (.iaload, 1) := by decide +kernel
theorem dX11_canBe_128 : decode cX11_canBe 128 = .ok (.invokevirtual 150, 3) := by decide +kernel
theorem dX11_canBe_131 : decode cX11_canBe 131 = .ok (.if_icmp .ge 7, 3) := by decide +kernel
theorem dX11_canBe_134 : decode cX11_canBe 134 = .ok (.iconst 1, 1) := by decide +kernel
theorem dX11_canBe_135 : decode cX11_canBe 135 = .ok (.goto 4, 3) := by decide +kernel
theorem dX11_canBe_138 : decode cX11_canBe 138 = .ok (.iconst 0, 1) := by decide +kernel
theorem dX11_canBe_139 : decode cX11_canBe 139 = .ok (.ireturn, 1) := by decide +kernel
theorem dX11_canBe_140 : decode cX11_canBe 140 = .ok (.iload_n 3, 1) := by decide +kernel
theorem dX11_canBe_141 : decode cX11_canBe 141 = .ok (.iconst 0, 1) := by decide +kernel
theorem dX11_canBe_142 : decode cX11_canBe 142 = .ok (.iconst 5, 1) := by decide +kernel
theorem dX11_canBe_143 : decode cX11_canBe 143 = .ok (.invokestatic 138, 3) := by decide +kernel
theorem dX11_canBe_146 : decode cX11_canBe 146 = .ok (.ireturn, 1) := by decide +kernel
theorem dX11_canBe_147 : decode cX11_canBe 147 = .ok (.iload_n 3, 1) := by decide +kernel
theorem dX11_canBe_148 : decode cX11_canBe 148 = .ok (.sipush (-3000), 3) := by decide +kernel
theorem dX11_canBe_151 : decode cX11_canBe 151 = .ok (.aload_n 0, 1) := by decide +kernel
theorem dX11_canBe_152 : decode cX11_canBe 152 = .ok (.iload_n 1, 1) := by decide +kernel
theorem dX11_canBe_153 : decode cX11_canBe 153 = .ok (.bipush 6, 2) := by decide +kernel
theorem dX11_canBe_155 : decode cX11_canBe 155 = .ok (.aload_n 0, 1) := by decide +kernel
theorem dX11_canBe_156 : decode cX11_canBe 156 = .ok (.getfield 26, 3) := by decide +kernel
theorem dX11_canBe_159 : decode cX11_canBe 159 = .ok (.iconst 0, 1) := by decide +kernel
theorem dX11_canBe_160 : decode cX11_canBe 160 = .ok (.iaload, 1) := by decide +kernel
theorem dX11_canBe_161 : decode cX11_canBe 161 = .ok (.invokevirtual 150, 3) := by decide +kernel
theorem dX11_canBe_164 : decode cX11_canBe 164 = .ok (.invokestatic 138, 3) := by decide +kernel
theorem dX11_canBe_167 : decode cX11_canBe 167 = .ok (.ireturn, 1) := by decide +kernel
theorem dX11_canBe_168 : decode cX11_canBe 168 = .ok (.iload_n 3, 1) := by decide +kernel
theorem dX11_canBe_169 : decode cX11_canBe 169 = .ok (.aload_n 0, 1) := by decide +kernel
theorem dX11_canBe_170 : decode cX11_canBe 170 = .ok (.iload_n 1, 1) := by decide +kernel
theorem dX11_canBe_171 : decode cX11_canBe 171 = .ok (.iconst 5, 1) := by decide +kernel
theorem dX11_canBe_172 : decode cX11_canBe 172 = .ok (.aload_n 0, 1) := by decide +kernel
theorem dX11_canBe_173 : decode cX11_canBe 173 = .ok (.getfield 26, 3) := by decide +kernel
theorem dX11_canBe_176 : decode cX11_canBe 176 = .ok (.iconst 0, 1) := by decide +kernel
theorem dX11_canBe_177 : decode cX11_canBe 177 = .ok (.iaload, 1) := by decide +kernel
theorem dX11_canBe_178 : decode cX11_canBe 178 = .ok (.invokevirtual 150, 3) := by decide +kernel
theorem dX11_canBe_181 : decode cX11_canBe 181 = .ok (.sipush 1900, 3) := by decide +kernel
theorem dX11_canBe_184 : decode cX11_canBe 184 = .ok (.invokestatic 138, 3) := by decide +kernel
theorem dX11_canBe_187 : decode cX11_canBe 187 = .ok (.ireturn, 1) := by decide +kernel
theorem dX11_canBe_188 : decode cX11_canBe 188 = .ok (.iload_n 3, 1) := by decide +kernel
theorem dX11_canBe_189 : decode cX11_canBe 189 = .ok (.iconst 0, 1) := by decide +kernel
theorem dX11_canBe_190 : decode cX11_canBe 190 = .ok (.bipush 60, 2) := by decide +kernel
theorem dX11_canBe_192 : decode cX11_canBe 192 = .ok (.invokestatic 138, 3) := by decide +kernel
theorem dX11_canBe_195 : decode cX11_canBe 195 = .ok (.ireturn, 1) := by decide +kernel
theorem dX11_canBe_196 : decode cX11_canBe 196 = .ok (.iload_n 3, 1) := by decide +kernel
theorem dX11_canBe_197 : decode cX11_canBe 197 = .ok (.iconst 0, 1) := by decide +kernel
theorem dX11_canBe_198 : decode cX11_canBe 198 = .ok (.bipush 9, 2) := by decide +kernel
theorem dX11_canBe_200 : decode cX11_canBe 200 = .ok (.invokestatic 138, 3) := by decide +kernel
theorem dX11_canBe_203 : decode cX11_canBe 203 = .ok (.ireturn, 1) := by decide +kernel
theorem dX11_canBe_204 : decode cX11_canBe 204 = .ok (.iload_n 3, 1) := by decide +kernel
theorem dX11_canBe_205 : decode cX11_canBe 205 = .ok (.iconst 0, 1) := by decide +kernel
theorem dX11_canBe_206 : decode cX11_canBe 206 = .ok (.iconst 1, 1) := by decide +kernel
theorem dX11_canBe_207 : decode cX11_canBe 207 = .ok (.invokestatic 138, 3) := by decide +kernel
theorem dX11_canBe_210 : decode cX11_canBe 210 = .ok (.ireturn, 1) := by decide +kernel
theorem dX11_canBe_211 : decode cX11_canBe 211 = .ok (.iload_n 3, 1) := by decide +kernel
theorem dX11_canBe_212 : decode cX11_canBe 212 = .ok (.iconst 0, 1) := by decide +kernel
theorem dX11_canBe_213 : decode cX11_canBe 213 = .ok (.bipush 8, 2) := by decide +kernel
theorem dX11_canBe_215 : decode cX11_canBe 215 = .ok (.invokestatic 138, 3) := by decide +kernel
theorem dX11_canBe_218 : decode cX11_canBe 218 = .ok (.ireturn, 1) := by decide +kernel
theorem dX11_canBe_219 : decode cX11_canBe 219 = .ok (.iconst 0, 1) := by decide +kernel
theorem dX11_canBe_220 : decode cX11_canBe 220 = .ok (.ireturn, 1) := by decide +kernel
theorem dX11_tell_0 : decode cX11_tell 0 = .ok (.aload_n 0, 1) := by decide +kernel
theorem dX11_tell_1 : decode cX11_tell 1 = .ok (.iconst 0, 1) := by decide +kernel
theorem dX11_tell_2 : decode cX11_tell 2 = .ok (.putfield 130, 3) := by decide +kernel
theorem dX11_tell_5 : decode cX11_tell 5 = .ok (.iload_n 1, 1) := by decide +kernel
theorem dX11_tell_6 : decode cX11_tell 6 = .ok (.iconst 0, 1) := by decide +kernel
theorem dX11_tell_7 : decode cX11_tell 7 = .ok (.aload_n 0, 1) := by decide +kernel
theorem dX11_tell_8 : decode cX11_tell 8 = .ok (.getfield 23, 3) := by decide +kernel
theorem dX11_tell_11 : decode cX11_tell 11 = .ok (.iconst 0, 1) := by decide +kernel
theorem dX11_tell_12 : decode cX11_tell 12 = .ok (.iaload, 1) := by decide +kernel
theorem dX11_tell_13 : decode cX11_tell 13 = .ok (.iconst 1, 1) := by decide +kernel
theorem dX11_tell_14 : decode cX11_tell 14 = .ok (.isub, 1) := by decide +kernel
theorem dX11_tell_15 : decode cX11_tell 15 = .ok (.invokestatic 138, 3) := by decide +kernel
theorem dX11_tell_18 : decode cX11_tell 18 = .ok (.ifCond .eq 25, 3) := by decide +kernel
theorem dX11_tell_21 : decode cX11_tell 21 = .ok (.aload_n 0, 1) := by decide +kernel
theorem dX11_tell_22 : decode cX11_tell 22 = .ok (.getfield 32, 3) := by decide +kernel
theorem dX11_tell_25 : decode cX11_tell 25 = .ok (.iconst 0, 1) := by decide +kernel
theorem dX11_tell_26 : decode cX11_tell 26 = .ok (.iaload, 1) := by decide +kernel
theorem dX11_tell_27 : decode cX11_tell 27 = .ok (.sipush 400, 3) := by decide +kernel
theorem dX11_tell_30 : decode cX11_tell 30 = .ok (.if_icmp .eq 13, 3) := by decide +kernel
theorem dX11_tell_33 : decode cX11_tell 33 = .ok (.aload_n 0, 1) := by decide +kernel
theorem dX11_tell_34 : decode cX11_tell 34 = .ok (.iload_n 1, 1) := by decide +kernel
theorem dX11_tell_35 : decode cX11_tell 35 = .ok (.iload_n 2, 1) := by decide +kernel
theorem dX11_tell_36 : decode cX11_tell 36 = .ok (.iload_n 3, 1) := by decide +kernel
theorem dX11_tell_37 : decode cX11_tell 37 = .ok (.invokevirtual 154, 3) := by decide +kernel
theorem dX11_tell_40 : decode cX11_tell 40 = .ok (.ifCond .ne 5, 3) := by decide +kernel
theorem dX11_tell_43 : decode cX11_tell 43 = .ok (.iconst 0, 1) := by decide +kernel
theorem dX11_tell_44 : decode cX11_tell 44 = .ok (.ireturn, 1) := by decide +kernel
theorem dX11_tell_45 : decode cX11_tell 45 = .ok (.aload_n 0, 1) := by decide +kernel
theorem dX11_tell_46 : decode cX11_tell 46 = .ok (.iload_n 1, 1) := by decide +kernel
theorem dX11_tell_47 : decode cX11_tell 47 = .ok (.iload_n 2, 1) := by decide +kernel
theorem dX11_tell_48 : decode cX11_tell 48 = .ok (.iload_n 3, 1) := by decide +kernel
theorem dX11_tell_49 : decode cX11_tell 49 = .ok (.invokevirtual 146, 3) := by decide +kernel
theorem dX11_tell_52 : decode cX11_tell 52 = .ok (.iconst 1, 1) := by decide +kernel
theorem dX11_tell_53 : decode cX11_tell 53 = .ok (.ireturn, 1) := by decide +kernel
theorem dX11_day_0 : decode cX11_day 0 = .ok (.aload_n 0, 1) := by decide +kernel
theorem dX11_day_1 : decode cX11_day 1 = .ok (.iconst 0, 1) := by decide +kernel
theorem dX11_day_2 : decode cX11_day 2 = .ok (.putfield 130, 3) := by decide +kernel
theorem dX11_day_5 : decode cX11_day 5 = .ok (.iload_n 1, 1) := by decide +kernel
theorem dX11_day_6 : decode cX11_day 6 = .ok (.aload_n 0, 1) := by decide +kernel
theorem dX11_day_7 : decode cX11_day 7 = .ok (.getfield 26, 3) := by decide +kernel
theorem dX11_day_10 : decode cX11_day 10 = .ok (.iconst 0, 1) := by decide +kernel
theorem dX11_day_11 : decode cX11_day 11 = .ok (.iaload, 1) := by decide +kernel
theorem dX11_day_12 : decode cX11_day 12 = .ok (.sipush 9999, 3) := by decide +kernel
theorem dX11_day_15 : decode cX11_day 15 = .ok (.invokestatic 138, 3) := by decide +kernel
theorem dX11_day_18 : decode cX11_day 18 = .ok (.ifCond .ne 5, 3) := by decide +kernel
theorem dX11_day_21 : decode cX11_day 21 = .ok (.iconst 0, 1) := by decide +kernel
theorem dX11_day_22 : decode cX11_day 22 = .ok (.ireturn, 1) := by decide +kernel
theorem dX11_day_23 : decode cX11_day 23 = .ok (.aload_n 0, 1) := by decide +kernel
theorem dX11_day_24 : decode cX11_day 24 = .ok (.getfield 26, 3) := by decide +kernel
theorem dX11_day_27 : decode cX11_day 27 = .ok (.iconst 0, 1) := by decide +kernel
theorem dX11_day_28 : decode cX11_day 28 = .ok (.iload_n 1, 1) := by decide +kernel
theorem dX11_day_29 : decode cX11_day 29 = .ok (.iastore, 1) := by decide +kernel
theorem dX11_day_30 : decode cX11_day 30 = .ok (.iconst 1, 1) := by decide +kernel
theorem dX11_day_31 : decode cX11_day 31 = .ok (.ireturn, 1) := by decide +kernel
theorem dX11_view_0 : decode cX11_view 0 = .ok (.aload_n 0, 1) := by decide +kernel
theorem dX11_view_1 : decode cX11_view 1 = .ok (.iconst 0, 1) := by decide +kernel
theorem dX11_view_2 : decode cX11_view 2 = .ok (.putfield 130, 3) := by decide +kernel
theorem dX11_view_5 : decode cX11_view 5 = .ok (.iload_n 1, 1) := by decide +kernel
theorem dX11_view_6 : decode cX11_view 6 = .ok (.iconst (-1), 1) := by decide +kernel
theorem dX11_view_7 : decode cX11_view 7 = .ok (.aload_n 0, 1) := by decide +kernel
theorem dX11_view_8 : decode cX11_view 8 = .ok (.getfield 26, 3) := by decide +kernel
theorem dX11_view_11 : decode cX11_view 11 = .ok (.iconst 0, 1) := by decide +kernel
theorem dX11_view_12 : decode cX11_view 12 = .ok (.iaload, 1) := by decide +kernel
theorem dX11_view_13 : decode cX11_view 13 = .ok (.invokestatic 138, 3) := by decide +kernel
theorem dX11_view_16 : decode cX11_view 16 = .ok (.ifCond .ne 5, 3) := by decide +kernel
theorem dX11_view_19 : decode cX11_view 19 = .ok (.iconst 0, 1) := by decide +kernel
theorem dX11_view_20 : decode cX11_view 20 = .ok (.ireturn, 1) := by decide +kernel
theorem dX11_view_21 : decode cX11_view 21 = .ok (.aload_n 0, 1) := by decide +kernel
theorem dX11_view_22 : decode cX11_view 22 = .ok (.getfield 29, 3) := by decide +kernel
theorem dX11_view_25 : decode cX11_view 25 = .ok (.iconst 0, 1) := by decide +kernel
theorem dX11_view_26 : decode cX11_view 26 = .ok (.iload_n 1, 1) := by decide +kernel
theorem dX11_view_27 : decode cX11_view 27 = .ok (.iastore, 1) := by decide +kernel
theorem dX11_view_28 : decode cX11_view 28 = .ok (.iconst 1, 1) := by decide +kernel
theorem dX11_view_29 : decode cX11_view 29 = .ok (.ireturn, 1) := by decide +kernel
theorem dX11_fact_0 : decode cX11_fact 0 = .ok (.aload_n 0, 1) := by decide +kernel
theorem dX11_fact_1 : decode cX11_fact 1 = .ok (.iconst 0, 1) := by decide +kernel
theorem dX11_fact_2 : decode cX11_fact 2 = .ok (.putfield 130, 3) := by decide +kernel
theorem dX11_fact_5 : decode cX11_fact 5 = .ok (.aload_n 0, 1) := by decide +kernel
theorem dX11_fact_6 : decode cX11_fact 6 = .ok (.iload_n 1, 1) := by decide +kernel
theorem dX11_fact_7 : decode cX11_fact 7 = .ok (.invokevirtual 157, 3) := by decide +kernel
theorem dX11_fact_10 : decode cX11_fact 10 = .ok (.ifCond .eq 26, 3) := by decide +kernel
theorem dX11_fact_13 : decode cX11_fact 13 = .ok (.iload_n 2, 1) := by decide +kernel
theorem dX11_fact_14 : decode cX11_fact 14 = .ok (.iconst 0, 1) := by decide +kernel
theorem dX11_fact_15 : decode cX11_fact 15 = .ok (.bipush 10, 2) := by decide +kernel
theorem dX11_fact_17 : decode cX11_fact 17 = .ok (.invokestatic 138, 3) := by decide +kernel
theorem dX11_fact_20 : decode cX11_fact 20 = .ok (.ifCond .eq 16, 3) := by decide +kernel
theorem dX11_fact_23 : decode cX11_fact 23 = .ok (.aload_n 0, 1) := by decide +kernel
theorem dX11_fact_24 : decode cX11_fact 24 = .ok (.iload_n 1, 1) := by decide +kernel
theorem dX11_fact_25 : decode cX11_fact 25 = .ok (.iload_n 2, 1) := by decide +kernel
theorem dX11_fact_26 : decode cX11_fact 26 = .ok (.aload_n 0, 1) := by decide +kernel
theorem dX11_fact_27 : decode cX11_fact 27 = .ok (.invokevirtual 142, 3) := by decide +kernel
theorem dX11_fact_30 : decode cX11_fact 30 = .ok (.invokevirtual 150, 3) := by decide +kernel
theorem dX11_fact_33 : decode cX11_fact 33 = .ok (.goto 5, 3) := by decide +kernel
theorem dX11_fact_36 : decode cX11_fact 36 = .ok (.ldc 161, 2) := by decide +kernel
theorem dX11_fact_38 : decode cX11_fact 38 = .ok (.ireturn, 1) := by decide +kernel
theorem dX11_entry_0 : decode cX11_entry 0 = .ok (.aload_n 0, 1) := by decide +kernel
theorem dX11_entry_1 : decode cX11_entry 1 = .ok (.iconst 0, 1) := by decide +kernel
theorem dX11_entry_2 : decode cX11_entry 2 = .ok (.putfield 130, 3) := by decide +kernel
theorem dX11_entry_5 : decode cX11_entry 5 = .ok (.iload_n 1, 1) := by decide +kernel
theorem dX11_entry_6 : decode cX11_entry 6 = .ok (.iconst 0, 1) := by decide +kernel
theorem dX11_entry_7 : decode cX11_entry 7 = .ok (.aload_n 0, 1) := by decide +kernel
theorem dX11_entry_8 : decode cX11_entry 8 = .ok (.getfield 32, 3) := by decide +kernel
theorem dX11_entry_11 : decode cX11_entry 11 = .ok (.iconst 0, 1) := by decide +kernel
theorem dX11_entry_12 : decode cX11_entry 12 = .ok (.iaload, 1) := by decide +kernel
theorem dX11_entry_13 : decode cX11_entry 13 = .ok (.iconst 1, 1) := by decide +kernel
theorem dX11_entry_14 : decode cX11_entry 14 = .ok (.isub, 1) := by decide +kernel
theorem dX11_entry_15 : decode cX11_entry 15 = .ok (.invokestatic 138, 3) := by decide +kernel
theorem dX11_entry_18 : decode cX11_entry 18 = .ok (.ifCond .eq 25, 3) := by decide +kernel
theorem dX11_entry_21 : decode cX11_entry 21 = .ok (.iload_n 2, 1) := by decide +kernel
theorem dX11_entry_22 : decode cX11_entry 22 = .ok (.iconst 0, 1) := by decide +kernel
theorem dX11_entry_23 : decode cX11_entry 23 = .ok (.iconst 3, 1) := by decide +kernel
theorem dX11_entry_24 : decode cX11_entry 24 = .ok (.invokestatic 138, 3) := by decide +kernel
theorem dX11_entry_27 : decode cX11_entry 27 = .ok (.ifCond .eq 16, 3) := by decide +kernel
theorem dX11_entry_30 : decode cX11_entry 30 = .ok (.aload_n 0, 1) := by decide +kernel
theorem dX11_entry_31 : decode cX11_entry 31 = .ok (.getfield 35, 3) := by decide +kernel
theorem dX11_entry_34 : decode cX11_entry 34 = .ok (.iconst 4, 1) := by decide +kernel
theorem dX11_entry_35 : decode cX11_entry 35 = .ok (.iload_n 1, 1) := by decide +kernel
theorem dX11_entry_36 : decode cX11_entry 36 = .ok (.imul, 1) := by decide +kernel
theorem dX11_entry_37 : decode cX11_entry 37 = .ok (.iload_n 2, 1) := by decide +kernel
theorem dX11_entry_38 : decode cX11_entry 38 = .ok (.iadd, 1) := by decide +kernel
theorem dX11_entry_39 : decode cX11_entry 39 = .ok (.iaload, 1) := by decide +kernel
theorem dX11_entry_40 : decode cX11_entry 40 = .ok (.goto 5, 3) := by decide +kernel
theorem dX11_entry_43 : decode cX11_entry 43 = .ok (.ldc 161, 2) := by decide +kernel
theorem dX11_entry_45 : decode cX11_entry 45 = .ok (.ireturn, 1) := by decide +kernel
theorem dX11_feed_0 : decode cX11_feed 0 = .ok (.aload_n 0, 1) := by decide +kernel
theorem dX11_feed_1 : decode cX11_feed 1 = .ok (.iconst 0, 1) := by decide +kernel
theorem dX11_feed_2 : decode cX11_feed 2 = .ok (.putfield 130, 3) := by decide +kernel
theorem dX11_feed_5 : decode cX11_feed 5 = .ok (.aload_n 0, 1) := by decide +kernel
theorem dX11_feed_6 : decode cX11_feed 6 = .ok (.getfield 13, 3) := by decide +kernel
theorem dX11_feed_9 : decode cX11_feed 9 = .ok (.iconst 0, 1) := by decide +kernel
theorem dX11_feed_10 : decode cX11_feed 10 = .ok (.iaload, 1) := by decide +kernel
theorem dX11_feed_11 : decode cX11_feed 11 = .ok (.bipush 20, 2) := by decide +kernel
theorem dX11_feed_13 : decode cX11_feed 13 = .ok (.iadd, 1) := by decide +kernel
theorem dX11_feed_14 : decode cX11_feed 14 = .ok (.sipush 500, 3) := by decide +kernel
theorem dX11_feed_17 : decode cX11_feed 17 = .ok (.if_icmp .le 5, 3) := by decide +kernel
theorem dX11_feed_20 : decode cX11_feed 20 = .ok (.iconst (-1), 1) := by decide +kernel
theorem dX11_feed_21 : decode cX11_feed 21 = .ok (.ireturn, 1) := by decide +kernel
theorem dX11_feed_22 : decode cX11_feed 22 = .ok (.aload_n 0, 1) := by decide +kernel
theorem dX11_feed_23 : decode cX11_feed 23 = .ok (.iload_n 1, 1) := by decide +kernel
theorem dX11_feed_24 : decode cX11_feed 24 = .ok (.invokevirtual 162, 3) := by decide +kernel
theorem dX11_feed_27 : decode cX11_feed 27 = .ok (.aload_n 0, 1) := by decide +kernel
theorem dX11_feed_28 : decode cX11_feed 28 = .ok (.iload_n 2, 1) := by decide +kernel
theorem dX11_feed_29 : decode cX11_feed 29 = .ok (.invokevirtual 162, 3) := by decide +kernel
theorem dX11_feed_32 : decode cX11_feed 32 = .ok (.aload_n 0, 1) := by decide +kernel
theorem dX11_feed_33 : decode cX11_feed 33 = .ok (.iload_n 3, 1) := by decide +kernel
theorem dX11_feed_34 : decode cX11_feed 34 = .ok (.invokevirtual 162, 3) := by decide +kernel
theorem dX11_feed_37 : decode cX11_feed 37 = .ok (.aload_n 0, 1) := by decide +kernel
theorem dX11_feed_38 : decode cX11_feed 38 = .ok (.iload 4, 2) := by decide +kernel
theorem dX11_feed_40 : decode cX11_feed 40 = .ok (.invokevirtual 162, 3) := by decide +kernel
theorem dX11_feed_43 : decode cX11_feed 43 = .ok (.aload_n 0, 1) := by decide +kernel
theorem dX11_feed_44 : decode cX11_feed 44 = .ok (.iload 5, 2) := by decide +kernel
theorem dX11_feed_46 : decode cX11_feed 46 = .ok (.invokevirtual 162, 3) := by decide +kernel
theorem dX11_feed_49 : decode cX11_feed 49 = .ok (.aload_n 0, 1) := by decide +kernel
theorem dX11_feed_50 : decode cX11_feed 50 = .ok (.getfield 13, 3) := by decide +kernel
theorem dX11_feed_53 : decode cX11_feed 53 = .ok (.iconst 0, 1) := by decide +kernel
theorem dX11_feed_54 : decode cX11_feed 54 = .ok (.iaload, 1) := by decide +kernel
theorem dX11_feed_55 : decode cX11_feed 55 = .ok (.ireturn, 1) := by decide +kernel
theorem dX11_four_0 : decode cX11_four 0 = .ok (.bipush 24, 2) := by decide +kernel
theorem dX11_four_2 : decode cX11_four 2 = .ok (.istore_n 2, 1) := by decide +kernel
theorem dX11_four_3 : decode cX11_four 3 = .ok (.iload_n 2, 1) := by decide +kernel
theorem dX11_four_4 : decode cX11_four 4 = .ok (.ifCond .lt 34, 3) := by decide +kernel
theorem dX11_four_7 : decode cX11_four 7 = .ok (.aload_n 0, 1) := by decide +kernel
theorem dX11_four_8 : decode cX11_four 8 = .ok (.getfield 7, 3) := by decide +kernel
theorem dX11_four_11 : decode cX11_four 11 = .ok (.aload_n 0, 1) := by decide +kernel
theorem dX11_four_12 : decode cX11_four 12 = .ok (.getfield 13, 3) := by decide +kernel
theorem dX11_four_15 : decode cX11_four 15 = .ok (.iconst 0, 1) := by decide +kernel
theorem dX11_four_16 : decode cX11_four 16 = .ok (.iaload, 1) := by decide +kernel
theorem dX11_four_17 : decode cX11_four 17 = .ok (.iload_n 1, 1) := by decide +kernel
theorem dX11_four_18 : decode cX11_four 18 = .ok (.iload_n 2, 1) := by decide +kernel
theorem dX11_four_19 : decode cX11_four 19 = .ok (.ishr, 1) := by decide +kernel
theorem dX11_four_20 : decode cX11_four 20 = .ok (.i2b, 1) := by decide +kernel
theorem dX11_four_21 : decode cX11_four 21 = .ok (.bastore, 1) := by decide +kernel
theorem dX11_four_22 : decode cX11_four 22 = .ok (.aload_n 0, 1) := by decide +kernel
theorem dX11_four_23 : decode cX11_four 23 = .ok (.getfield 13, 3) := by decide +kernel
theorem dX11_four_26 : decode cX11_four 26 = .ok (.iconst 0, 1) := by decide +kernel
theorem dX11_four_27 : decode cX11_four 27 = .ok (.dup2, 1) := by decide +kernel
theorem dX11_four_28 : decode cX11_four 28 = .ok (.iaload, 1) := by decide +kernel
theorem dX11_four_29 : decode cX11_four 29 = .ok (.iconst 1, 1) := by decide +kernel
theorem dX11_four_30 : decode cX11_four 30 = .ok (.iadd, 1) := by decide +kernel
theorem dX11_four_31 : decode cX11_four 31 = .ok (.iastore, 1) := by decide +kernel
theorem dX11_four_32 : decode cX11_four 32 = .ok (.iinc 2 (-8), 3) := by decide +kernel
theorem dX11_four_35 : decode cX11_four 35 = .ok (.goto (-32), 3) := by decide +kernel
theorem dX11_four_38 : decode cX11_four 38 = .ok (.return_, 1) := by decide +kernel
theorem dX11_end_0 : decode cX11_end 0 = .ok (.aload_n 0, 1) := by decide +kernel
theorem dX11_end_1 : decode cX11_end 1 = .ok (.iconst 0, 1) := by decide +kernel
theorem dX11_end_2 : decode cX11_end 2 = .ok (.putfield 130, 3) := by decide +kernel
theorem dX11_end_5 : decode cX11_end 5 = .ok (.iload_n 1, 1) := by decide +kernel
theorem dX11_end_6 : decode cX11_end 6 = .ok (.iconst 0, 1) := by decide +kernel
theorem dX11_end_7 : decode cX11_end 7 = .ok (.aload_n 0, 1) := by decide +kernel
theorem dX11_end_8 : decode cX11_end 8 = .ok (.getfield 13, 3) := by decide +kernel
theorem dX11_end_11 : decode cX11_end 11 = .ok (.iconst 0, 1) := by decide +kernel
theorem dX11_end_12 : decode cX11_end 12 = .ok (.iaload, 1) := by decide +kernel
theorem dX11_end_13 : decode cX11_end 13 = .ok (.invokestatic 138, 3) := by decide +kernel
theorem dX11_end_16 : decode cX11_end 16 = .ok (.ifCond .ne 5, 3) := by decide +kernel
theorem dX11_end_19 : decode cX11_end 19 = .ok (.iconst (-1), 1) := by decide +kernel
theorem dX11_end_20 : decode cX11_end 20 = .ok (.ireturn, 1) := by decide +kernel
theorem dX11_end_21 : decode cX11_end 21 = .ok (.aload_n 0, 1) := by decide +kernel
theorem dX11_end_22 : decode cX11_end 22 = .ok (.getfield 13, 3) := by decide +kernel
theorem dX11_end_25 : decode cX11_end 25 = .ok (.iconst 0, 1) := by decide +kernel
theorem dX11_end_26 : decode cX11_end 26 = .ok (.iload_n 1, 1) := by decide +kernel
theorem dX11_end_27 : decode cX11_end 27 = .ok (.iastore, 1) := by decide +kernel
theorem dX11_end_28 : decode cX11_end 28 = .ok (.iload_n 1, 1) := by decide +kernel
theorem dX11_end_29 : decode cX11_end 29 = .ok (.ireturn, 1) := by decide +kernel
theorem dX11_see_0 : decode cX11_see 0 = .ok (.aload_n 0, 1) := by decide +kernel
theorem dX11_see_1 : decode cX11_see 1 = .ok (.getfield 166, 3) := by decide +kernel
theorem dX11_see_4 : decode cX11_see 4 = .ok (.aload_n 0, 1) := by decide +kernel
theorem dX11_see_5 : decode cX11_see 5 = .ok (.getfield 169, 3) := by decide +kernel
theorem dX11_see_8 : decode cX11_see 8 = .ok (.if_icmp .ge 19, 3) := by decide +kernel
theorem dX11_see_11 : decode cX11_see 11 = .ok (.aload_n 0, 1) := by decide +kernel
theorem dX11_see_12 : decode cX11_see 12 = .ok (.getfield 7, 3) := by decide +kernel
theorem dX11_see_15 : decode cX11_see 15 = .ok (.aload_n 0, 1) := by decide +kernel
theorem dX11_see_16 : decode cX11_see 16 = .ok (.getfield 166, 3) := by decide +kernel
theorem dX11_see_19 : decode cX11_see 19 = .ok (.baload, 1) := by decide +kernel
theorem dX11_see_20 : decode cX11_see 20 = .ok (.sipush 255, 3) := by decide +kernel
theorem dX11_see_23 : decode cX11_see 23 = .ok (.iand, 1) := by decide +kernel
theorem dX11_see_24 : decode cX11_see 24 = .ok (.goto 4, 3) := by decide +kernel
theorem dX11_see_27 : decode cX11_see 27 = .ok (.iconst (-1), 1) := by decide +kernel
theorem dX11_see_28 : decode cX11_see 28 = .ok (.ireturn, 1) := by decide +kernel
theorem dX11_next_0 : decode cX11_next 0 = .ok (.aload_n 0, 1) := by decide +kernel
theorem dX11_next_1 : decode cX11_next 1 = .ok (.invokevirtual 172, 3) := by decide +kernel
theorem dX11_next_4 : decode cX11_next 4 = .ok (.bipush 10, 2) := by decide +kernel
theorem dX11_next_6 : decode cX11_next 6 = .ok (.if_icmp .eq 12, 3) := by decide +kernel
theorem dX11_next_9 : decode cX11_next 9 = .ok (.aload_n 0, 1) := by decide +kernel
theorem dX11_next_10 : decode cX11_next 10 = .ok (.invokevirtual 172, 3) := by decide +kernel
theorem dX11_next_13 : decode cX11_next 13 = .ok (.bipush 32, 2) := by decide +kernel
theorem dX11_next_15 : decode cX11_next 15 = .ok (.if_icmp .ne 16, 3) := by decide +kernel
theorem dX11_next_18 : decode cX11_next 18 = .ok (.aload_n 0, 1) := by decide +kernel
theorem dX11_next_19 : decode cX11_next 19 = .ok (.dup, 1) := by decide +kernel
theorem dX11_next_20 : decode cX11_next 20 = .ok (.getfield 166, 3) := by decide +kernel
theorem dX11_next_23 : decode cX11_next 23 = .ok (.iconst 1, 1) := by decide +kernel
theorem dX11_next_24 : decode cX11_next 24 = .ok (.iadd, 1) := by decide +kernel
theorem dX11_next_25 : decode cX11_next 25 = .ok (.putfield 166, 3) := by decide +kernel
theorem dX11_next_28 : decode cX11_next 28 = .ok (.goto (-28), 3) := by decide +kernel
theorem dX11_next_31 : decode cX11_next 31 = .ok (.aload_n 0, 1) := by decide +kernel
theorem dX11_next_32 : decode cX11_next 32 = .ok (.aload_n 0, 1) := by decide +kernel
theorem dX11_next_33 : decode cX11_next 33 = .ok (.getfield 166, 3) := by decide +kernel
theorem dX11_next_36 : decode cX11_next 36 = .ok (.putfield 175, 3) := by decide +kernel
theorem dX11_next_39 : decode cX11_next 39 = .ok (.aload_n 0, 1) := by decide +kernel
theorem dX11_next_40 : decode cX11_next 40 = .ok (.invokevirtual 172, 3) := by decide +kernel
theorem dX11_next_43 : decode cX11_next 43 = .ok (.istore_n 1, 1) := by decide +kernel
theorem dX11_next_44 : decode cX11_next 44 = .ok (.aload_n 0, 1) := by decide +kernel
theorem dX11_next_45 : decode cX11_next 45 = .ok (.iload_n 1, 1) := by decide +kernel
theorem dX11_next_46 : decode cX11_next 46 = .ok (.putfield 178, 3) := by decide +kernel
theorem dX11_next_49 : decode cX11_next 49 = .ok (.aload_n 0, 1) := by decide +kernel
theorem dX11_next_50 : decode cX11_next 50 = .ok (.lconst 0, 1) := by decide +kernel
theorem dX11_next_51 : decode cX11_next 51 = .ok (.putfield 181, 3) := by decide +kernel
theorem dX11_next_54 : decode cX11_next 54 = .ok (.iconst 0, 1) := by decide +kernel
theorem dX11_next_55 : decode cX11_next 55 = .ok (.istore_n 2, 1) := by decide +kernel
theorem dX11_next_56 : decode cX11_next 56 = .ok (.iload_n 1, 1) := by decide +kernel
theorem dX11_next_57 : decode cX11_next 57 = .ok (.ifCond .ge 11, 3) := by decide +kernel
theorem dX11_next_60 : decode cX11_next 60 = .ok (.aload_n 0, 1) := by decide +kernel
theorem dX11_next_61 : decode cX11_next 61 = .ok (.iconst 0, 1) := by decide +kernel
theorem dX11_next_62 : decode cX11_next 62 = .ok (.putfield 185, 3) := by decide +kernel
theorem dX11_next_65 : decode cX11_next 65 = .ok (.goto 230, 3) := by decide +kernel
theorem dX11_next_68 : decode cX11_next 68 = .ok (.iload_n 1, 1) := by decide +kernel
theorem dX11_next_69 : decode cX11_next 69 = .ok (.bipush 97, 2) := by decide +kernel
theorem dX11_next_71 : decode cX11_next 71 = .ok (.bipush 122, 2) := by decide +kernel
theorem dX11_next_73 : decode cX11_next 73 = .ok (.invokestatic 138, 3) := by decide +kernel
theorem dX11_next_76 : decode cX11_next 76 = .ok (.ifCond .eq 76, 3) := by decide +kernel
theorem dX11_next_79 : decode cX11_next 79 = .ok (.aload_n 0, 1) := by decide +kernel
theorem dX11_next_80 : decode cX11_next 80 = .ok (.invokevirtual 172, 3) := by decide +kernel
theorem dX11_next_83 : decode cX11_next 83 = .ok (.bipush 97, 2) := by decide +kernel
theorem dX11_next_85 : decode cX11_next 85 = .ok (.bipush 122, 2) := by decide +kernel
theorem dX11_next_87 : decode cX11_next 87 = .ok (.invokestatic 138, 3) := by decide +kernel
theorem dX11_next_90 : decode cX11_next 90 = .ok (.ifCond .eq 36, 3) := by decide +kernel
theorem dX11_next_93 : decode cX11_next 93 = .ok (.aload_n 0, 1) := by decide +kernel
theorem dX11_next_94 : decode cX11_next 94 = .ok (.aload_n 0, 1) := by decide +kernel
theorem dX11_next_95 : decode cX11_next 95 = .ok (.getfield 181, 3) := by decide +kernel
theorem dX11_next_98 : decode cX11_next 98 = .ok (.bipush 8, 2) := by decide +kernel
theorem dX11_next_100 : decode cX11_next 100 = .ok (.lshl, 1) := by decide +kernel
theorem dX11_next_101 : decode cX11_next 101 = .ok (.aload_n 0, 1) := by decide +kernel
theorem dX11_next_102 : decode cX11_next 102 = .ok (.invokevirtual 172, 3) := by decide +kernel
theorem dX11_next_105 : decode cX11_next 105 = .ok (.i2l, 1) := by decide +kernel
theorem dX11_next_106 : decode cX11_next 106 = .ok (.lor, 1) := by decide +kernel
theorem dX11_next_107 : decode cX11_next 107 = .ok (.putfield 181, 3) := by decide +kernel
theorem dX11_next_110 : decode cX11_next 110 = .ok (.aload_n 0, 1) := by decide +kernel
theorem dX11_next_111 : decode cX11_next 111 = .ok (.dup, 1) := by decide +kernel
theorem dX11_next_112 : decode cX11_next 112 = .ok (.getfield 166, 3) := by decide +kernel
theorem dX11_next_115 : decode cX11_next 115 = .ok (.iconst 1, 1) := by decide +kernel
theorem dX11_next_116 : decode cX11_next 116 = .ok (.iadd, 1) := by decide +kernel
theorem dX11_next_117 : decode cX11_next 117 = .ok (.putfield 166, 3) := by decide +kernel
theorem dX11_next_120 : decode cX11_next 120 = .ok (.iinc 2 1, 3) := by decide +kernel
theorem dX11_next_123 : decode cX11_next 123 = .ok (.goto (-44), 3) := by decide +kernel
theorem dX11_next_126 : decode cX11_next 126 = .ok (.aload_n 0, 1) := by decide +kernel
theorem dX11_next_127 : decode cX11_next 127 = .ok (.iload_n 2, 1) := by decide +kernel
theorem dX11_next_128 : decode cX11_next 128 = .ok (.bipush 8, 2) := by decide +kernel
theorem dX11_next_130 : decode cX11_next 130 = .ok (.if_icmp .le 7, 3) := by decide +kernel
theorem dX11_next_133 : decode cX11_next 133 = .ok (.lconst 0, 1) := by decide +kernel
theorem dX11_next_134 : decode cX11_next 134 = .ok (.goto 7, 3) := by decide +kernel
theorem dX11_next_137 : decode cX11_next 137 = .ok (.aload_n 0, 1) := by decide +kernel
theorem dX11_next_138 : decode cX11_next 138 = .ok (.getfield 181, 3) := by decide +kernel
theorem dX11_next_141 : decode cX11_next 141 = .ok (.putfield 181, 3) := by decide +kernel
theorem dX11_next_144 : decode cX11_next 144 = .ok (.aload_n 0, 1) := by decide +kernel
theorem dX11_next_145 : decode cX11_next 145 = .ok (.iconst 2, 1) := by decide +kernel
theorem dX11_next_146 : decode cX11_next 146 = .ok (.putfield 185, 3) := by decide +kernel
theorem dX11_next_149 : decode cX11_next 149 = .ok (.goto 146, 3) := by decide +kernel
theorem dX11_next_152 : decode cX11_next 152 = .ok (.iload_n 1, 1) := by decide +kernel
theorem dX11_next_153 : decode cX11_next 153 = .ok (.bipush 48, 2) := by decide +kernel
theorem dX11_next_155 : decode cX11_next 155 = .ok (.bipush 57, 2) := by decide +kernel
theorem dX11_next_157 : decode cX11_next 157 = .ok (.invokestatic 138, 3) := by decide +kernel
theorem dX11_next_160 : decode cX11_next 160 = .ok (.ifCond .eq 86, 3) := by decide +kernel
theorem dX11_next_163 : decode cX11_next 163 = .ok (.aload_n 0, 1) := by decide +kernel
theorem dX11_next_164 : decode cX11_next 164 = .ok (.iconst 0, 1) := by decide +kernel
theorem dX11_next_165 : decode cX11_next 165 = .ok (.putfield 178, 3) := by decide +kernel
theorem dX11_next_168 : decode cX11_next 168 = .ok (.aload_n 0, 1) := by decide +kernel
theorem dX11_next_169 : decode cX11_next 169 = .ok (.invokevirtual 172, 3) := by decide +kernel
theorem dX11_next_172 : decode cX11_next 172 = .ok (.bipush 48, 2) := by decide +kernel
theorem dX11_next_174 : decode cX11_next 174 = .ok (.bipush 57, 2) := by decide +kernel
theorem dX11_next_176 : decode cX11_next 176 = .ok (.invokestatic 138, 3) := by decide +kernel
theorem dX11_next_179 : decode cX11_next 179 = .ok (.ifCond .eq 50, 3) := by decide +kernel
theorem dX11_next_182 : decode cX11_next 182 = .ok (.aload_n 0, 1) := by decide +kernel
theorem dX11_next_183 : decode cX11_next 183 = .ok (.iload_n 2, 1) := by decide +kernel
theorem dX11_next_184 : decode cX11_next 184 = .ok (.iconst 4, 1) := by decide +kernel
theorem dX11_next_185 : decode cX11_next 185 = .ok (.if_icmp .ge 21, 3) := by decide +kernel
theorem dX11_next_188 : decode cX11_next 188 = .ok (.bipush 10, 2) := by decide +kernel
theorem dX11_next_190 : decode cX11_next 190 = .ok (.aload_n 0, 1) := by decide +kernel
theorem dX11_next_191 : decode cX11_next 191 = .ok (.getfield 178, 3) := by decide +kernel
theorem dX11_next_194 : decode cX11_next 194 = .ok (.imul, 1) := by decide +kernel
theorem dX11_next_195 : decode cX11_next 195 = .ok (.aload_n 0, 1) := by decide +kernel
theorem dX11_next_196 : decode cX11_next 196 = .ok (.invokevirtual 172, 3) := by decide +kernel
theorem dX11_next_199 : decode cX11_next 199 = .ok (.iadd, 1) := by decide +kernel
theorem dX11_next_200 : decode cX11_next 200 = .ok (.bipush 48, 2) := by decide +kernel
theorem dX11_next_202 : decode cX11_next 202 = .ok (.isub, 1) := by decide +kernel
theorem dX11_next_203 : decode cX11_next 203 = .ok (.goto 7, 3) := by decide +kernel
theorem dX11_next_206 : decode cX11_next 206 = .ok (.aload_n 0, 1) := by decide +kernel
theorem dX11_next_207 : decode cX11_next 207 = .ok (.getfield 178, 3) := by decide +kernel
theorem dX11_next_210 : decode cX11_next 210 = .ok (.putfield 178, 3) := by decide +kernel
theorem dX11_next_213 : decode cX11_next 213 = .ok (.aload_n 0, 1) := by decide +kernel
theorem dX11_next_214 : decode cX11_next 214 = .ok (.dup, 1) := by decide +kernel
theorem dX11_next_215 : decode cX11_next 215 = .ok (.getfield 166, 3) := by decide +kernel
theorem dX11_next_218 : decode cX11_next 218 = .ok (.iconst 1, 1) := by decide +kernel
theorem dX11_next_219 : decode cX11_next 219 = .ok (.iadd, 1) := by decide +kernel
theorem dX11_next_220 : decode cX11_next 220 = .ok (.putfield 166, 3) := by decide +kernel
theorem dX11_next_223 : decode cX11_next 223 = .ok (.iinc 2 1, 3) := by decide +kernel
theorem dX11_next_226 : decode cX11_next 226 = .ok (.goto (-58), 3) := by decide +kernel
theorem dX11_next_229 : decode cX11_next 229 = .ok (.aload_n 0, 1) := by decide +kernel
theorem dX11_next_230 : decode cX11_next 230 = .ok (.iload_n 2, 1) := by decide +kernel
theorem dX11_next_231 : decode cX11_next 231 = .ok (.iconst 4, 1) := by decide +kernel
theorem dX11_next_232 : decode cX11_next 232 = .ok (.if_icmp .le 7, 3) := by decide +kernel
theorem dX11_next_235 : decode cX11_next 235 = .ok (.iconst 1, 1) := by decide +kernel
theorem dX11_next_236 : decode cX11_next 236 = .ok (.goto 4, 3) := by decide +kernel
theorem dX11_next_239 : decode cX11_next 239 = .ok (.iconst 3, 1) := by decide +kernel
theorem dX11_next_240 : decode cX11_next 240 = .ok (.putfield 185, 3) := by decide +kernel
theorem dX11_next_243 : decode cX11_next 243 = .ok (.goto 52, 3) := by decide +kernel
theorem dX11_next_246 : decode cX11_next 246 = .ok (.aload_n 0, 1) := by decide +kernel
theorem dX11_next_247 : decode cX11_next 247 = .ok (.dup, 1) := by decide +kernel
theorem dX11_next_248 : decode cX11_next 248 = .ok (.getfield 166, 3) := by decide +kernel
theorem dX11_next_251 : decode cX11_next 251 = .ok (.iconst 1, 1) := by decide +kernel
theorem dX11_next_252 : decode cX11_next 252 = .ok (.iadd, 1) := by decide +kernel
theorem dX11_next_253 : decode cX11_next 253 = .ok (.putfield 166, 3) := by decide +kernel
theorem dX11_next_256 : decode cX11_next 256 = .ok (.aload_n 0, 1) := by decide +kernel
theorem dX11_next_257 : decode cX11_next 257 = .ok (.iload_n 1, 1) := by decide +kernel
theorem dX11_next_258 : decode cX11_next 258 = .ok (.bipush 58, 2) := by decide +kernel
theorem dX11_next_260 : decode cX11_next 260 = .ok (.if_icmp .eq 27, 3) := by decide +kernel
theorem dX11_next_263 : decode cX11_next 263 = .ok (.iload_n 1, 1) := by decide +kernel
theorem dX11_next_264 : decode cX11_next 264 = .ok (.bipush 59, 2) := by decide +kernel
theorem dX11_next_266 : decode cX11_next 266 = .ok (.if_icmp .eq 21, 3) := by decide +kernel
theorem dX11_next_269 : decode cX11_next 269 = .ok (.iload_n 1, 1) := by decide +kernel
theorem dX11_next_270 : decode cX11_next 270 = .ok (.bipush 60, 2) := by decide +kernel
theorem dX11_next_272 : decode cX11_next 272 = .ok (.if_icmp .eq 15, 3) := by decide +kernel
theorem dX11_next_275 : decode cX11_next 275 = .ok (.iload_n 1, 1) := by decide +kernel
theorem dX11_next_276 : decode cX11_next 276 = .ok (.bipush 62, 2) := by decide +kernel
theorem dX11_next_278 : decode cX11_next 278 = .ok (.if_icmp .eq 9, 3) := by decide +kernel
theorem dX11_next_281 : decode cX11_next 281 = .ok (.iload_n 1, 1) := by decide +kernel
theorem dX11_next_282 : decode cX11_next 282 = .ok (.bipush 61, 2) := by decide +kernel
theorem dX11_next_284 : decode cX11_next 284 = .ok (.if_icmp .ne 7, 3) := by decide +kernel
theorem dX11_next_287 : decode cX11_next 287 = .ok (.iconst 4, 1) := by decide +kernel
theorem dX11_next_288 : decode cX11_next 288 = .ok (.goto 4, 3) := by decide +kernel
theorem dX11_next_291 : decode cX11_next 291 = .ok (.iconst 1, 1) := by decide +kernel
theorem dX11_next_292 : decode cX11_next 292 = .ok (.putfield 185, 3) := by decide +kernel
theorem dX11_next_295 : decode cX11_next 295 = .ok (.return_, 1) := by decide +kernel
theorem dX11_isWord_0 : decode cX11_isWord 0 = .ok (.aload_n 0, 1) := by decide +kernel
theorem dX11_isWord_1 : decode cX11_isWord 1 = .ok (.getfield 185, 3) := by decide +kernel
theorem dX11_isWord_4 : decode cX11_isWord 4 = .ok (.iconst 2, 1) := by decide +kernel
theorem dX11_isWord_5 : decode cX11_isWord 5 = .ok (.if_icmp .ne 16, 3) := by decide +kernel
theorem dX11_isWord_8 : decode cX11_isWord 8 = .ok (.aload_n 0, 1) := by decide +kernel
theorem dX11_isWord_9 : decode cX11_isWord 9 = .ok (.getfield 181, 3) := by decide +kernel
theorem dX11_isWord_12 : decode cX11_isWord 12 = .ok (.lload_n 1, 1) := by decide +kernel
theorem dX11_isWord_13 : decode cX11_isWord 13 = .ok (.lcmp, 1) := by decide +kernel
theorem dX11_isWord_14 : decode cX11_isWord 14 = .ok (.ifCond .ne 7, 3) := by decide +kernel
theorem dX11_isWord_17 : decode cX11_isWord 17 = .ok (.iconst 1, 1) := by decide +kernel
theorem dX11_isWord_18 : decode cX11_isWord 18 = .ok (.goto 4, 3) := by decide +kernel
theorem dX11_isWord_21 : decode cX11_isWord 21 = .ok (.iconst 0, 1) := by decide +kernel
theorem dX11_isWord_22 : decode cX11_isWord 22 = .ok (.ireturn, 1) := by decide +kernel
theorem dX11_isSign_0 : decode cX11_isSign 0 = .ok (.aload_n 0, 1) := by decide +kernel
theorem dX11_isSign_1 : decode cX11_isSign 1 = .ok (.getfield 185, 3) := by decide +kernel
theorem dX11_isSign_4 : decode cX11_isSign 4 = .ok (.iconst 4, 1) := by decide +kernel
theorem dX11_isSign_5 : decode cX11_isSign 5 = .ok (.if_icmp .ne 15, 3) := by decide +kernel
theorem dX11_isSign_8 : decode cX11_isSign 8 = .ok (.aload_n 0, 1) := by decide +kernel
theorem dX11_isSign_9 : decode cX11_isSign 9 = .ok (.getfield 178, 3) := by decide +kernel
theorem dX11_isSign_12 : decode cX11_isSign 12 = .ok (.iload_n 1, 1) := by decide +kernel
theorem dX11_isSign_13 : decode cX11_isSign 13 = .ok (.if_icmp .ne 7, 3) := by decide +kernel
theorem dX11_isSign_16 : decode cX11_isSign 16 = .ok (.iconst 1, 1) := by decide +kernel
theorem dX11_isSign_17 : decode cX11_isSign 17 = .ok (.goto 4, 3) := by decide +kernel
theorem dX11_isSign_20 : decode cX11_isSign 20 = .ok (.iconst 0, 1) := by decide +kernel
theorem dX11_isSign_21 : decode cX11_isSign 21 = .ok (.ireturn, 1) := by decide +kernel
theorem dX11_wrong_0 : decode cX11_wrong 0 = .ok (.aload_n 0, 1) := by decide +kernel
theorem dX11_wrong_1 : decode cX11_wrong 1 = .ok (.aload_n 0, 1) := by decide +kernel
theorem dX11_wrong_2 : decode cX11_wrong 2 = .ok (.getfield 175, 3) := by decide +kernel
theorem dX11_wrong_5 : decode cX11_wrong 5 = .ok (.putfield 188, 3) := by decide +kernel
theorem dX11_wrong_8 : decode cX11_wrong 8 = .ok (.iconst 0, 1) := by decide +kernel
theorem dX11_wrong_9 : decode cX11_wrong 9 = .ok (.ireturn, 1) := by decide +kernel
theorem dX11_later_0 : decode cX11_later 0 = .ok (.aload_n 0, 1) := by decide +kernel
theorem dX11_later_1 : decode cX11_later 1 = .ok (.getfield 191, 3) := by decide +kernel
theorem dX11_later_4 : decode cX11_later 4 = .ok (.ifCond .ne 13, 3) := by decide +kernel
theorem dX11_later_7 : decode cX11_later 7 = .ok (.aload_n 0, 1) := by decide +kernel
theorem dX11_later_8 : decode cX11_later 8 = .ok (.iload_n 1, 1) := by decide +kernel
theorem dX11_later_9 : decode cX11_later 9 = .ok (.putfield 191, 3) := by decide +kernel
theorem dX11_later_12 : decode cX11_later 12 = .ok (.aload_n 0, 1) := by decide +kernel
theorem dX11_later_13 : decode cX11_later 13 = .ok (.iload_n 2, 1) := by decide +kernel
theorem dX11_later_14 : decode cX11_later 14 = .ok (.putfield 194, 3) := by decide +kernel
theorem dX11_later_17 : decode cX11_later 17 = .ok (.return_, 1) := by decide +kernel
theorem dX11_need_0 : decode cX11_need 0 = .ok (.aload_n 0, 1) := by decide +kernel
theorem dX11_need_1 : decode cX11_need 1 = .ok (.iload_n 1, 1) := by decide +kernel
theorem dX11_need_2 : decode cX11_need 2 = .ok (.invokevirtual 197, 3) := by decide +kernel
theorem dX11_need_5 : decode cX11_need 5 = .ok (.ifCond .ne 8, 3) := by decide +kernel
theorem dX11_need_8 : decode cX11_need 8 = .ok (.aload_n 0, 1) := by decide +kernel
theorem dX11_need_9 : decode cX11_need 9 = .ok (.invokevirtual 200, 3) := by decide +kernel
theorem dX11_need_12 : decode cX11_need 12 = .ok (.ireturn, 1) := by decide +kernel
theorem dX11_need_13 : decode cX11_need 13 = .ok (.aload_n 0, 1) := by decide +kernel
theorem dX11_need_14 : decode cX11_need 14 = .ok (.invokevirtual 204, 3) := by decide +kernel
theorem dX11_need_17 : decode cX11_need 17 = .ok (.iconst 1, 1) := by decide +kernel
theorem dX11_need_18 : decode cX11_need 18 = .ok (.ireturn, 1) := by decide +kernel
theorem dX11_testWord_0 : decode cX11_testWord 0 = .ok (.iload_n 1, 1) := by decide +kernel
theorem dX11_testWord_1 : decode cX11_testWord 1 = .ok (.ifCond .eq 119, 3) := by decide +kernel
theorem dX11_testWord_4 : decode cX11_testWord 4 = .ok (.aload_n 0, 1) := by decide +kernel
theorem dX11_testWord_5 : decode cX11_testWord 5 = .ok (.ldc2_w 207, 3) := by decide +kernel
theorem dX11_testWord_8 : decode cX11_testWord 8 = .ok (.invokevirtual 209, 3) := by decide +kernel
theorem dX11_testWord_11 : decode cX11_testWord 11 = .ok (.ifCond .eq 7, 3) := by decide +kernel
theorem dX11_testWord_14 : decode cX11_testWord 14 = .ok (.iconst 0, 1) := by decide +kernel
theorem dX11_testWord_15 : decode cX11_testWord 15 = .ok (.goto 104, 3) := by decide +kernel
theorem dX11_testWord_18 : decode cX11_testWord 18 = .ok (.aload_n 0, 1) := by decide +kernel
theorem dX11_testWord_19 : decode cX11_testWord 19 = .ok (.ldc2_w 213, 3) := by decide +kernel
theorem dX11_testWord_22 : decode cX11_testWord 22 = .ok (.invokevirtual 209, 3) := by decide +kernel
theorem dX11_testWord_25 : decode cX11_testWord 25 = .ok (.ifCond .eq 7, 3) := by decide +kernel
theorem dX11_testWord_28 : decode cX11_testWord 28 = .ok (.iconst 1, 1) := by decide +kernel
theorem dX11_testWord_29 : decode cX11_testWord 29 = .ok (.goto 90, 3) := by decide +kernel
theorem dX11_testWord_32 : decode cX11_testWord 32 = .ok (.aload_n 0, 1) := by decide +kernel
theorem dX11_testWord_33 : decode cX11_testWord 33 = .ok (.ldc2_w 215, 3) := by decide +kernel
theorem dX11_testWord_36 : decode cX11_testWord 36 = .ok (.invokevirtual 209, 3) := by decide +kernel
theorem dX11_testWord_39 : decode cX11_testWord 39 = .ok (.ifCond .eq 7, 3) := by decide +kernel
theorem dX11_testWord_42 : decode cX11_testWord 42 = .ok (.iconst 2, 1) := by decide +kernel
theorem dX11_testWord_43 : decode cX11_testWord 43 = .ok (.goto 76, 3) := by decide +kernel
theorem dX11_testWord_46 : decode cX11_testWord 46 = .ok (.aload_n 0, 1) := by decide +kernel
theorem dX11_testWord_47 : decode cX11_testWord 47 = .ok (.ldc2_w 217, 3) := by decide +kernel
theorem dX11_testWord_50 : decode cX11_testWord 50 = .ok (.invokevirtual 209, 3) := by decide +kernel
theorem dX11_testWord_53 : decode cX11_testWord 53 = .ok (.ifCond .eq 7, 3) := by decide +kernel
theorem dX11_testWord_56 : decode cX11_testWord 56 = .ok (.iconst 3, 1) := by decide +kernel
theorem dX11_testWord_57 : decode cX11_testWord 57 = .ok (.goto 62, 3) := by decide +kernel
theorem dX11_testWord_60 : decode cX11_testWord 60 = .ok (.aload_n 0, 1) := by decide +kernel
theorem dX11_testWord_61 : decode cX11_testWord 61 = .ok (.ldc2_w 219, 3) := by decide +kernel
theorem dX11_testWord_64 : decode cX11_testWord 64 = .ok (.invokevirtual 209, 3) := by decide +kernel
theorem dX11_testWord_67 : decode cX11_testWord 67 = .ok (.ifCond .eq 7, 3) := by decide +kernel
theorem dX11_testWord_70 : decode cX11_testWord 70 = .ok (.iconst 4, 1) := by decide +kernel
theorem dX11_testWord_71 : decode cX11_testWord 71 = .ok (.goto 48, 3) := by decide +kernel
theorem dX11_testWord_74 : decode cX11_testWord 74 = .ok (.aload_n 0, 1) := by decide +kernel
theorem dX11_testWord_75 : decode cX11_testWord 75 = .ok (.ldc2_w 221, 3) := by decide +kernel
theorem dX11_testWord_78 : decode cX11_testWord 78 = .ok (.invokevirtual 209, 3) := by decide +kernel
theorem dX11_testWord_81 : decode cX11_testWord 81 = .ok (.ifCond .eq 7, 3) := by decide +kernel
theorem dX11_testWord_84 : decode cX11_testWord 84 = .ok (.iconst 5, 1) := by decide +kernel
theorem dX11_testWord_85 : decode cX11_testWord 85 = .ok (.goto 34, 3) := by decide +kernel
theorem dX11_testWord_88 : decode cX11_testWord 88 = .ok (.aload_n 0, 1) := by decide +kernel
theorem dX11_testWord_89 : decode cX11_testWord 89 = .ok (.ldc2_w 223, 3) := by decide +kernel
theorem dX11_testWord_92 : decode cX11_testWord 92 = .ok (.invokevirtual 209, 3) := by decide +kernel
theorem dX11_testWord_95 : decode cX11_testWord 95 = .ok (.ifCond .eq 8, 3) := by decide +kernel
theorem dX11_testWord_98 : decode cX11_testWord 98 = .ok (.bipush 6, 2) := by decide +kernel
theorem dX11_testWord_100 : decode cX11_testWord 100 = .ok (.goto 19, 3) := by decide +kernel
theorem dX11_testWord_103 : decode cX11_testWord 103 = .ok (.aload_n 0, 1) := by decide +kernel
theorem dX11_testWord_104 : decode cX11_testWord 104 = .ok (.ldc2_w 225, 3) := by decide +kernel
theorem dX11_testWord_107 : decode cX11_testWord 107 = .ok (.invokevirtual 209, 3) := by decide +kernel
theorem dX11_testWord_110 : decode cX11_testWord 110 = .ok (.ifCond .eq 8, 3) := by decide +kernel
theorem dX11_testWord_113 : decode cX11_testWord 113 = .ok (.bipush 7, 2) := by decide +kernel
theorem dX11_testWord_115 : decode cX11_testWord 115 = .ok (.goto 4, 3) := by decide +kernel
theorem dX11_testWord_118 : decode cX11_testWord 118 = .ok (.iconst (-1), 1) := by decide +kernel
theorem dX11_testWord_119 : decode cX11_testWord 119 = .ok (.ireturn, 1) := by decide +kernel
theorem dX11_testWord_120 : decode cX11_testWord 120 = .ok (.aload_n 0, 1) := by decide +kernel
theorem dX11_testWord_121 : decode cX11_testWord 121 = .ok (.ldc2_w 227, 3) := by decide +kernel
theorem dX11_testWord_124 : decode cX11_testWord 124 = .ok (.invokevirtual 209, 3) := by decide +kernel
theorem dX11_testWord_127 : decode cX11_testWord 127 = .ok (.ifCond .eq 7, 3) := by decide +kernel
theorem dX11_testWord_130 : decode cX11_testWord 130 = .ok (.iconst 0, 1) := by decide +kernel
theorem dX11_testWord_131 : decode cX11_testWord 131 = .ok (.goto 89, 3) := by decide +kernel
theorem dX11_testWord_134 : decode cX11_testWord 134 = .ok (.aload_n 0, 1) := by decide +kernel
theorem dX11_testWord_135 : decode cX11_testWord 135 = .ok (.ldc2_w 229, 3) := by decide +kernel
theorem dX11_testWord_138 : decode cX11_testWord 138 = .ok (.invokevirtual 209, 3) := by decide +kernel
theorem dX11_testWord_141 : decode cX11_testWord 141 = .ok (.ifCond .eq 7, 3) := by decide +kernel
theorem dX11_testWord_144 : decode cX11_testWord 144 = .ok (.iconst 1, 1) := by decide +kernel
theorem dX11_testWord_145 : decode cX11_testWord 145 = .ok (.goto 75, 3) := by decide +kernel
theorem dX11_testWord_148 : decode cX11_testWord 148 = .ok (.aload_n 0, 1) := by decide +kernel
theorem dX11_testWord_149 : decode cX11_testWord 149 = .ok (.ldc2_w 231, 3) := by decide +kernel
theorem dX11_testWord_152 : decode cX11_testWord 152 = .ok (.invokevirtual 209, 3) := by decide +kernel
theorem dX11_testWord_155 : decode cX11_testWord 155 = .ok (.ifCond .eq 7, 3) := by decide +kernel
theorem dX11_testWord_158 : decode cX11_testWord 158 = .ok (.iconst 2, 1) := by decide +kernel
theorem dX11_testWord_159 : decode cX11_testWord 159 = .ok (.goto 61, 3) := by decide +kernel
theorem dX11_testWord_162 : decode cX11_testWord 162 = .ok (.aload_n 0, 1) := by decide +kernel
theorem dX11_testWord_163 : decode cX11_testWord 163 = .ok (.ldc2_w 233, 3) := by decide +kernel
theorem dX11_testWord_166 : decode cX11_testWord 166 = .ok (.invokevirtual 209, 3) := by decide +kernel
theorem dX11_testWord_169 : decode cX11_testWord 169 = .ok (.ifCond .eq 7, 3) := by decide +kernel
theorem dX11_testWord_172 : decode cX11_testWord 172 = .ok (.iconst 3, 1) := by decide +kernel
theorem dX11_testWord_173 : decode cX11_testWord 173 = .ok (.goto 47, 3) := by decide +kernel
theorem dX11_testWord_176 : decode cX11_testWord 176 = .ok (.aload_n 0, 1) := by decide +kernel
theorem dX11_testWord_177 : decode cX11_testWord 177 = .ok (.ldc2_w 235, 3) := by decide +kernel
theorem dX11_testWord_180 : decode cX11_testWord 180 = .ok (.invokevirtual 209, 3) := by decide +kernel
theorem dX11_testWord_183 : decode cX11_testWord 183 = .ok (.ifCond .eq 7, 3) := by decide +kernel
theorem dX11_testWord_186 : decode cX11_testWord 186 = .ok (.iconst 4, 1) := by decide +kernel
theorem dX11_testWord_187 : decode cX11_testWord 187 = .ok (.goto 33, 3) := by decide +kernel
theorem dX11_testWord_190 : decode cX11_testWord 190 = .ok (.aload_n 0, 1) := by decide +kernel
theorem dX11_testWord_191 : decode cX11_testWord 191 = .ok (.ldc2_w 237, 3) := by decide +kernel
theorem dX11_testWord_194 : decode cX11_testWord 194 = .ok (.invokevirtual 209, 3) := by decide +kernel
theorem dX11_testWord_197 : decode cX11_testWord 197 = .ok (.ifCond .eq 7, 3) := by decide +kernel
theorem dX11_testWord_200 : decode cX11_testWord 200 = .ok (.iconst 5, 1) := by decide +kernel
theorem dX11_testWord_201 : decode cX11_testWord 201 = .ok (.goto 19, 3) := by decide +kernel
theorem dX11_testWord_204 : decode cX11_testWord 204 = .ok (.aload_n 0, 1) := by decide +kernel
theorem dX11_testWord_205 : decode cX11_testWord 205 = .ok (.ldc2_w 239, 3) := by decide +kernel
theorem dX11_testWord_208 : decode cX11_testWord 208 = .ok (.invokevirtual 209, 3) := by decide +kernel
theorem dX11_testWord_211 : decode cX11_testWord 211 = .ok (.ifCond .eq 8, 3) := by decide +kernel
theorem dX11_testWord_214 : decode cX11_testWord 214 = .ok (.bipush 6, 2) := by decide +kernel
theorem dX11_testWord_216 : decode cX11_testWord 216 = .ok (.goto 4, 3) := by decide +kernel
theorem dX11_testWord_219 : decode cX11_testWord 219 = .ok (.iconst (-1), 1) := by decide +kernel
theorem dX11_testWord_220 : decode cX11_testWord 220 = .ok (.ireturn, 1) := by decide +kernel
theorem dX11_actWord_0 : decode cX11_actWord 0 = .ok (.iload_n 1, 1) := by decide +kernel
theorem dX11_actWord_1 : decode cX11_actWord 1 = .ok (.ifCond .eq 61, 3) := by decide +kernel
theorem dX11_actWord_4 : decode cX11_actWord 4 = .ok (.aload_n 0, 1) := by decide +kernel
theorem dX11_actWord_5 : decode cX11_actWord 5 = .ok (.ldc2_w 241, 3) := by decide +kernel
theorem dX11_actWord_8 : decode cX11_actWord 8 = .ok (.invokevirtual 209, 3) := by decide +kernel
theorem dX11_actWord_11 : decode cX11_actWord 11 = .ok (.ifCond .eq 7, 3) := by decide +kernel
theorem dX11_actWord_14 : decode cX11_actWord 14 = .ok (.iconst 0, 1) := by decide +kernel
theorem dX11_actWord_15 : decode cX11_actWord 15 = .ok (.goto 46, 3) := by decide +kernel
theorem dX11_actWord_18 : decode cX11_actWord 18 = .ok (.aload_n 0, 1) := by decide +kernel
theorem dX11_actWord_19 : decode cX11_actWord 19 = .ok (.ldc2_w 243, 3) := by decide +kernel
theorem dX11_actWord_22 : decode cX11_actWord 22 = .ok (.invokevirtual 209, 3) := by decide +kernel
theorem dX11_actWord_25 : decode cX11_actWord 25 = .ok (.ifCond .eq 7, 3) := by decide +kernel
theorem dX11_actWord_28 : decode cX11_actWord 28 = .ok (.iconst 1, 1) := by decide +kernel
theorem dX11_actWord_29 : decode cX11_actWord 29 = .ok (.goto 32, 3) := by decide +kernel
theorem dX11_actWord_32 : decode cX11_actWord 32 = .ok (.aload_n 0, 1) := by decide +kernel
theorem dX11_actWord_33 : decode cX11_actWord 33 = .ok (.ldc2_w 245, 3) := by decide +kernel
theorem dX11_actWord_36 : decode cX11_actWord 36 = .ok (.invokevirtual 209, 3) := by decide +kernel
theorem dX11_actWord_39 : decode cX11_actWord 39 = .ok (.ifCond .eq 7, 3) := by decide +kernel
theorem dX11_actWord_42 : decode cX11_actWord 42 = .ok (.iconst 2, 1) := by decide +kernel
theorem dX11_actWord_43 : decode cX11_actWord 43 = .ok (.goto 18, 3) := by decide +kernel
theorem dX11_actWord_46 : decode cX11_actWord 46 = .ok (.aload_n 0, 1) := by decide +kernel
theorem dX11_actWord_47 : decode cX11_actWord 47 = .ok (.ldc2_w 247, 3) := by decide +kernel
theorem dX11_actWord_50 : decode cX11_actWord 50 = .ok (.invokevirtual 209, 3) := by decide +kernel
theorem dX11_actWord_53 : decode cX11_actWord 53 = .ok (.ifCond .eq 7, 3) := by decide +kernel
theorem dX11_actWord_56 : decode cX11_actWord 56 = .ok (.iconst 3, 1) := by decide +kernel
theorem dX11_actWord_57 : decode cX11_actWord 57 = .ok (.goto 4, 3) := by decide +kernel
theorem dX11_actWord_60 : decode cX11_actWord 60 = .ok (.iconst (-1), 1) := by decide +kernel
theorem dX11_actWord_61 : decode cX11_actWord 61 = .ok (.ireturn, 1) := by decide +kernel
theorem dX11_actWord_62 : decode cX11_actWord 62 = .ok (.aload_n 0, 1) := by decide +kernel
theorem dX11_actWord_63 : decode cX11_actWord 63 = .ok (.ldc2_w 249, 3) := by decide +kernel
theorem dX11_actWord_66 : decode cX11_actWord 66 = .ok (.invokevirtual 209, 3) := by decide +kernel
theorem dX11_actWord_69 : decode cX11_actWord 69 = .ok (.ifCond .eq 7, 3) := by decide +kernel
theorem dX11_actWord_72 : decode cX11_actWord 72 = .ok (.iconst 0, 1) := by decide +kernel
theorem dX11_actWord_73 : decode cX11_actWord 73 = .ok (.goto 32, 3) := by decide +kernel
theorem dX11_actWord_76 : decode cX11_actWord 76 = .ok (.aload_n 0, 1) := by decide +kernel
theorem dX11_actWord_77 : decode cX11_actWord 77 = .ok (.ldc2_w 251, 3) := by decide +kernel
theorem dX11_actWord_80 : decode cX11_actWord 80 = .ok (.invokevirtual 209, 3) := by decide +kernel
theorem dX11_actWord_83 : decode cX11_actWord 83 = .ok (.ifCond .eq 7, 3) := by decide +kernel
theorem dX11_actWord_86 : decode cX11_actWord 86 = .ok (.iconst 1, 1) := by decide +kernel
theorem dX11_actWord_87 : decode cX11_actWord 87 = .ok (.goto 18, 3) := by decide +kernel
theorem dX11_actWord_90 : decode cX11_actWord 90 = .ok (.aload_n 0, 1) := by decide +kernel
theorem dX11_actWord_91 : decode cX11_actWord 91 = .ok (.ldc2_w 253, 3) := by decide +kernel
theorem dX11_actWord_94 : decode cX11_actWord 94 = .ok (.invokevirtual 209, 3) := by decide +kernel
theorem dX11_actWord_97 : decode cX11_actWord 97 = .ok (.ifCond .eq 7, 3) := by decide +kernel
theorem dX11_actWord_100 : decode cX11_actWord 100 = .ok (.iconst 2, 1) := by decide +kernel
theorem dX11_actWord_101 : decode cX11_actWord 101 = .ok (.goto 4, 3) := by decide +kernel
theorem dX11_actWord_104 : decode cX11_actWord 104 = .ok (.iconst (-1), 1) := by decide +kernel
theorem dX11_actWord_105 : decode cX11_actWord 105 = .ok (.ireturn, 1) := by decide +kernel
theorem dX11_test_0 : decode cX11_test 0 = .ok (.iload_n 3, 1) := by decide +kernel
theorem dX11_test_1 : decode cX11_test 1 = .ok (.iconst 4, 1) := by decide +kernel
theorem dX11_test_2 : decode cX11_test 2 = .ok (.if_icmp .ne 12, 3) := by decide +kernel
theorem dX11_test_5 : decode cX11_test 5 = .ok (.aload_n 0, 1) := by decide +kernel
theorem dX11_test_6 : decode cX11_test 6 = .ok (.iconst 3, 1) := by decide +kernel
theorem dX11_test_7 : decode cX11_test 7 = .ok (.aload_n 0, 1) := by decide +kernel
theorem dX11_test_8 : decode cX11_test 8 = .ok (.getfield 175, 3) := by decide +kernel
theorem dX11_test_11 : decode cX11_test 11 = .ok (.invokevirtual 255, 3) := by decide +kernel
theorem dX11_test_14 : decode cX11_test 14 = .ok (.aload_n 0, 1) := by decide +kernel
theorem dX11_test_15 : decode cX11_test 15 = .ok (.ldc2_w 259, 3) := by decide +kernel
theorem dX11_test_18 : decode cX11_test 18 = .ok (.invokevirtual 209, 3) := by decide +kernel
theorem dX11_test_21 : decode cX11_test 21 = .ok (.istore 4, 2) := by decide +kernel
theorem dX11_test_23 : decode cX11_test 23 = .ok (.iload 4, 2) := by decide +kernel
theorem dX11_test_25 : decode cX11_test 25 = .ok (.ifCond .eq 7, 3) := by decide +kernel
theorem dX11_test_28 : decode cX11_test 28 = .ok (.aload_n 0, 1) := by decide +kernel
theorem dX11_test_29 : decode cX11_test 29 = .ok (.invokevirtual 204, 3) := by decide +kernel
theorem dX11_test_32 : decode cX11_test 32 = .ok (.aload_n 0, 1) := by decide +kernel
theorem dX11_test_33 : decode cX11_test 33 = .ok (.iload_n 1, 1) := by decide +kernel
theorem dX11_test_34 : decode cX11_test 34 = .ok (.invokevirtual 261, 3) := by decide +kernel
theorem dX11_test_37 : decode cX11_test 37 = .ok (.istore 5, 2) := by decide +kernel
theorem dX11_test_39 : decode cX11_test 39 = .ok (.iload 5, 2) := by decide +kernel
theorem dX11_test_41 : decode cX11_test 41 = .ok (.iconst (-1), 1) := by decide +kernel
theorem dX11_test_42 : decode cX11_test 42 = .ok (.if_icmp .ne 8, 3) := by decide +kernel
theorem dX11_test_45 : decode cX11_test 45 = .ok (.aload_n 0, 1) := by decide +kernel
theorem dX11_test_46 : decode cX11_test 46 = .ok (.invokevirtual 200, 3) := by decide +kernel
theorem dX11_test_49 : decode cX11_test 49 = .ok (.ireturn, 1) := by decide +kernel
theorem dX11_test_50 : decode cX11_test 50 = .ok (.aload_n 0, 1) := by decide +kernel
theorem dX11_test_51 : decode cX11_test 51 = .ok (.invokevirtual 204, 3) := by decide +kernel
theorem dX11_test_54 : decode cX11_test 54 = .ok (.aload_n 0, 1) := by decide +kernel
theorem dX11_test_55 : decode cX11_test 55 = .ok (.getfield 178, 3) := by decide +kernel
theorem dX11_test_58 : decode cX11_test 58 = .ok (.istore 6, 2) := by decide +kernel
theorem dX11_test_60 : decode cX11_test 60 = .ok (.aload_n 0, 1) := by decide +kernel
theorem dX11_test_61 : decode cX11_test 61 = .ok (.getfield 185, 3) := by decide +kernel
theorem dX11_test_64 : decode cX11_test 64 = .ok (.iconst 4, 1) := by decide +kernel
theorem dX11_test_65 : decode cX11_test 65 = .ok (.if_icmp .ne 24, 3) := by decide +kernel
theorem dX11_test_68 : decode cX11_test 68 = .ok (.iload 6, 2) := by decide +kernel
theorem dX11_test_70 : decode cX11_test 70 = .ok (.bipush 60, 2) := by decide +kernel
theorem dX11_test_72 : decode cX11_test 72 = .ok (.if_icmp .eq 22, 3) := by decide +kernel
theorem dX11_test_75 : decode cX11_test 75 = .ok (.iload 6, 2) := by decide +kernel
theorem dX11_test_77 : decode cX11_test 77 = .ok (.bipush 62, 2) := by decide +kernel
theorem dX11_test_79 : decode cX11_test 79 = .ok (.if_icmp .eq 15, 3) := by decide +kernel
theorem dX11_test_82 : decode cX11_test 82 = .ok (.iload 6, 2) := by decide +kernel
theorem dX11_test_84 : decode cX11_test 84 = .ok (.bipush 61, 2) := by decide +kernel
theorem dX11_test_86 : decode cX11_test 86 = .ok (.if_icmp .eq 8, 3) := by decide +kernel
theorem dX11_test_89 : decode cX11_test 89 = .ok (.aload_n 0, 1) := by decide +kernel
theorem dX11_test_90 : decode cX11_test 90 = .ok (.invokevirtual 200, 3) := by decide +kernel
theorem dX11_test_93 : decode cX11_test 93 = .ok (.ireturn, 1) := by decide +kernel
theorem dX11_test_94 : decode cX11_test 94 = .ok (.aload_n 0, 1) := by decide +kernel
theorem dX11_test_95 : decode cX11_test 95 = .ok (.invokevirtual 204, 3) := by decide +kernel
theorem dX11_test_98 : decode cX11_test 98 = .ok (.aload_n 0, 1) := by decide +kernel
theorem dX11_test_99 : decode cX11_test 99 = .ok (.getfield 185, 3) := by decide +kernel
theorem dX11_test_102 : decode cX11_test 102 = .ok (.iconst 3, 1) := by decide +kernel
theorem dX11_test_103 : decode cX11_test 103 = .ok (.if_icmp .eq 8, 3) := by decide +kernel
theorem dX11_test_106 : decode cX11_test 106 = .ok (.aload_n 0, 1) := by decide +kernel
theorem dX11_test_107 : decode cX11_test 107 = .ok (.invokevirtual 200, 3) := by decide +kernel
theorem dX11_test_110 : decode cX11_test 110 = .ok (.ireturn, 1) := by decide +kernel
theorem dX11_test_111 : decode cX11_test 111 = .ok (.aload_n 0, 1) := by decide +kernel
theorem dX11_test_112 : decode cX11_test 112 = .ok (.getfield 178, 3) := by decide +kernel
theorem dX11_test_115 : decode cX11_test 115 = .ok (.istore 7, 2) := by decide +kernel
theorem dX11_test_117 : decode cX11_test 117 = .ok (.aload_n 0, 1) := by decide +kernel
end
section
theorem dX11_test_118 : decode cX11_test 118 = .ok (.invokevirtual 204, 3) := by decide +kernel
theorem dX11_test_121 : decode cX11_test 121 = .ok (.iload_n 3, 1) := by decide +kernel
theorem dX11_test_122 : decode cX11_test 122 = .ok (.iconst 4, 1) := by decide +kernel
theorem dX11_test_123 : decode cX11_test 123 = .ok (.if_icmp .ge 65, 3) := by decide +kernel
theorem dX11_test_126 : decode cX11_test 126 = .ok (.iload_n 2, 1) := by decide +kernel
theorem dX11_test_127 : decode cX11_test 127 = .ok (.bipush 16, 2) := by decide +kernel
theorem dX11_test_129 : decode cX11_test 129 = .ok (.if_icmp .ge 59, 3) := by decide +kernel
theorem dX11_test_132 : decode cX11_test 132 = .ok (.iconst 4, 1) := by decide +kernel
theorem dX11_test_133 : decode cX11_test 133 = .ok (.iload_n 2, 1) := by decide +kernel
theorem dX11_test_134 : decode cX11_test 134 = .ok (.imul, 1) := by decide +kernel
theorem dX11_test_135 : decode cX11_test 135 = .ok (.iload_n 3, 1) := by decide +kernel
theorem dX11_test_136 : decode cX11_test 136 = .ok (.iadd, 1) := by decide +kernel
theorem dX11_test_137 : decode cX11_test 137 = .ok (.istore 8, 2) := by decide +kernel
theorem dX11_test_139 : decode cX11_test 139 = .ok (.aload_n 0, 1) := by decide +kernel
theorem dX11_test_140 : decode cX11_test 140 = .ok (.getfield 80, 3) := by decide +kernel
theorem dX11_test_143 : decode cX11_test 143 = .ok (.iload 8, 2) := by decide +kernel
theorem dX11_test_145 : decode cX11_test 145 = .ok (.iload 4, 2) := by decide +kernel
theorem dX11_test_147 : decode cX11_test 147 = .ok (.ifCond .eq 11, 3) := by decide +kernel
theorem dX11_test_150 : decode cX11_test 150 = .ok (.iload 5, 2) := by decide +kernel
theorem dX11_test_152 : decode cX11_test 152 = .ok (.bipush 8, 2) := by decide +kernel
theorem dX11_test_154 : decode cX11_test 154 = .ok (.iadd, 1) := by decide +kernel
theorem dX11_test_155 : decode cX11_test 155 = .ok (.goto 5, 3) := by decide +kernel
theorem dX11_test_158 : decode cX11_test 158 = .ok (.iload 5, 2) := by decide +kernel
theorem dX11_test_160 : decode cX11_test 160 = .ok (.iastore, 1) := by decide +kernel
theorem dX11_test_161 : decode cX11_test 161 = .ok (.aload_n 0, 1) := by decide +kernel
theorem dX11_test_162 : decode cX11_test 162 = .ok (.getfield 83, 3) := by decide +kernel
theorem dX11_test_165 : decode cX11_test 165 = .ok (.iload 8, 2) := by decide +kernel
theorem dX11_test_167 : decode cX11_test 167 = .ok (.iload 6, 2) := by decide +kernel
theorem dX11_test_169 : decode cX11_test 169 = .ok (.iastore, 1) := by decide +kernel
theorem dX11_test_170 : decode cX11_test 170 = .ok (.aload_n 0, 1) := by decide +kernel
theorem dX11_test_171 : decode cX11_test 171 = .ok (.getfield 86, 3) := by decide +kernel
theorem dX11_test_174 : decode cX11_test 174 = .ok (.iload 8, 2) := by decide +kernel
theorem dX11_test_176 : decode cX11_test 176 = .ok (.iload 7, 2) := by decide +kernel
theorem dX11_test_178 : decode cX11_test 178 = .ok (.iastore, 1) := by decide +kernel
theorem dX11_test_179 : decode cX11_test 179 = .ok (.aload_n 0, 1) := by decide +kernel
theorem dX11_test_180 : decode cX11_test 180 = .ok (.getfield 77, 3) := by decide +kernel
theorem dX11_test_183 : decode cX11_test 183 = .ok (.iload_n 2, 1) := by decide +kernel
theorem dX11_test_184 : decode cX11_test 184 = .ok (.iload_n 3, 1) := by decide +kernel
theorem dX11_test_185 : decode cX11_test 185 = .ok (.iconst 1, 1) := by decide +kernel
theorem dX11_test_186 : decode cX11_test 186 = .ok (.iadd, 1) := by decide +kernel
theorem dX11_test_187 : decode cX11_test 187 = .ok (.iastore, 1) := by decide +kernel
theorem dX11_test_188 : decode cX11_test 188 = .ok (.iconst 1, 1) := by decide +kernel
theorem dX11_test_189 : decode cX11_test 189 = .ok (.ireturn, 1) := by decide +kernel
theorem dX11_numbers_0 : decode cX11_numbers 0 = .ok (.aload_n 0, 1) := by decide +kernel
theorem dX11_numbers_1 : decode cX11_numbers 1 = .ok (.getfield 185, 3) := by decide +kernel
theorem dX11_numbers_4 : decode cX11_numbers 4 = .ok (.iconst 3, 1) := by decide +kernel
theorem dX11_numbers_5 : decode cX11_numbers 5 = .ok (.if_icmp .eq 8, 3) := by decide +kernel
theorem dX11_numbers_8 : decode cX11_numbers 8 = .ok (.aload_n 0, 1) := by decide +kernel
theorem dX11_numbers_9 : decode cX11_numbers 9 = .ok (.invokevirtual 200, 3) := by decide +kernel
theorem dX11_numbers_12 : decode cX11_numbers 12 = .ok (.ireturn, 1) := by decide +kernel
theorem dX11_numbers_13 : decode cX11_numbers 13 = .ok (.aload_n 0, 1) := by decide +kernel
theorem dX11_numbers_14 : decode cX11_numbers 14 = .ok (.getfield 92, 3) := by decide +kernel
theorem dX11_numbers_17 : decode cX11_numbers 17 = .ok (.iload_n 1, 1) := by decide +kernel
theorem dX11_numbers_18 : decode cX11_numbers 18 = .ok (.aload_n 0, 1) := by decide +kernel
theorem dX11_numbers_19 : decode cX11_numbers 19 = .ok (.getfield 178, 3) := by decide +kernel
theorem dX11_numbers_22 : decode cX11_numbers 22 = .ok (.iastore, 1) := by decide +kernel
theorem dX11_numbers_23 : decode cX11_numbers 23 = .ok (.aload_n 0, 1) := by decide +kernel
theorem dX11_numbers_24 : decode cX11_numbers 24 = .ok (.getfield 95, 3) := by decide +kernel
theorem dX11_numbers_27 : decode cX11_numbers 27 = .ok (.iload_n 1, 1) := by decide +kernel
theorem dX11_numbers_28 : decode cX11_numbers 28 = .ok (.aload_n 0, 1) := by decide +kernel
theorem dX11_numbers_29 : decode cX11_numbers 29 = .ok (.getfield 178, 3) := by decide +kernel
theorem dX11_numbers_32 : decode cX11_numbers 32 = .ok (.iastore, 1) := by decide +kernel
theorem dX11_numbers_33 : decode cX11_numbers 33 = .ok (.aload_n 0, 1) := by decide +kernel
theorem dX11_numbers_34 : decode cX11_numbers 34 = .ok (.invokevirtual 204, 3) := by decide +kernel
theorem dX11_numbers_37 : decode cX11_numbers 37 = .ok (.aload_n 0, 1) := by decide +kernel
theorem dX11_numbers_38 : decode cX11_numbers 38 = .ok (.ldc2_w 265, 3) := by decide +kernel
theorem dX11_numbers_41 : decode cX11_numbers 41 = .ok (.invokevirtual 209, 3) := by decide +kernel
theorem dX11_numbers_44 : decode cX11_numbers 44 = .ok (.ifCond .eq 56, 3) := by decide +kernel
theorem dX11_numbers_47 : decode cX11_numbers 47 = .ok (.aload_n 0, 1) := by decide +kernel
theorem dX11_numbers_48 : decode cX11_numbers 48 = .ok (.invokevirtual 204, 3) := by decide +kernel
theorem dX11_numbers_51 : decode cX11_numbers 51 = .ok (.aload_n 0, 1) := by decide +kernel
theorem dX11_numbers_52 : decode cX11_numbers 52 = .ok (.getfield 185, 3) := by decide +kernel
theorem dX11_numbers_55 : decode cX11_numbers 55 = .ok (.iconst 3, 1) := by decide +kernel
theorem dX11_numbers_56 : decode cX11_numbers 56 = .ok (.if_icmp .eq 8, 3) := by decide +kernel
theorem dX11_numbers_59 : decode cX11_numbers 59 = .ok (.aload_n 0, 1) := by decide +kernel
theorem dX11_numbers_60 : decode cX11_numbers 60 = .ok (.invokevirtual 200, 3) := by decide +kernel
theorem dX11_numbers_63 : decode cX11_numbers 63 = .ok (.ireturn, 1) := by decide +kernel
theorem dX11_numbers_64 : decode cX11_numbers 64 = .ok (.aload_n 0, 1) := by decide +kernel
theorem dX11_numbers_65 : decode cX11_numbers 65 = .ok (.getfield 178, 3) := by decide +kernel
theorem dX11_numbers_68 : decode cX11_numbers 68 = .ok (.aload_n 0, 1) := by decide +kernel
theorem dX11_numbers_69 : decode cX11_numbers 69 = .ok (.getfield 92, 3) := by decide +kernel
theorem dX11_numbers_72 : decode cX11_numbers 72 = .ok (.iload_n 1, 1) := by decide +kernel
theorem dX11_numbers_73 : decode cX11_numbers 73 = .ok (.iaload, 1) := by decide +kernel
theorem dX11_numbers_74 : decode cX11_numbers 74 = .ok (.if_icmp .ge 12, 3) := by decide +kernel
theorem dX11_numbers_77 : decode cX11_numbers 77 = .ok (.aload_n 0, 1) := by decide +kernel
theorem dX11_numbers_78 : decode cX11_numbers 78 = .ok (.iconst 2, 1) := by decide +kernel
theorem dX11_numbers_79 : decode cX11_numbers 79 = .ok (.aload_n 0, 1) := by decide +kernel
theorem dX11_numbers_80 : decode cX11_numbers 80 = .ok (.getfield 175, 3) := by decide +kernel
theorem dX11_numbers_83 : decode cX11_numbers 83 = .ok (.invokevirtual 255, 3) := by decide +kernel
theorem dX11_numbers_86 : decode cX11_numbers 86 = .ok (.aload_n 0, 1) := by decide +kernel
theorem dX11_numbers_87 : decode cX11_numbers 87 = .ok (.getfield 95, 3) := by decide +kernel
theorem dX11_numbers_90 : decode cX11_numbers 90 = .ok (.iload_n 1, 1) := by decide +kernel
theorem dX11_numbers_91 : decode cX11_numbers 91 = .ok (.aload_n 0, 1) := by decide +kernel
theorem dX11_numbers_92 : decode cX11_numbers 92 = .ok (.getfield 178, 3) := by decide +kernel
theorem dX11_numbers_95 : decode cX11_numbers 95 = .ok (.iastore, 1) := by decide +kernel
theorem dX11_numbers_96 : decode cX11_numbers 96 = .ok (.aload_n 0, 1) := by decide +kernel
theorem dX11_numbers_97 : decode cX11_numbers 97 = .ok (.invokevirtual 204, 3) := by decide +kernel
theorem dX11_numbers_100 : decode cX11_numbers 100 = .ok (.iconst 1, 1) := by decide +kernel
theorem dX11_numbers_101 : decode cX11_numbers 101 = .ok (.ireturn, 1) := by decide +kernel
theorem dX11_oneLine_0 : decode cX11_oneLine 0 = .ok (.aload_n 0, 1) := by decide +kernel
theorem dX11_oneLine_1 : decode cX11_oneLine 1 = .ok (.getfield 267, 3) := by decide +kernel
theorem dX11_oneLine_4 : decode cX11_oneLine 4 = .ok (.bipush 16, 2) := by decide +kernel
theorem dX11_oneLine_6 : decode cX11_oneLine 6 = .ok (.if_icmp .ge 10, 3) := by decide +kernel
theorem dX11_oneLine_9 : decode cX11_oneLine 9 = .ok (.aload_n 0, 1) := by decide +kernel
theorem dX11_oneLine_10 : decode cX11_oneLine 10 = .ok (.getfield 267, 3) := by decide +kernel
theorem dX11_oneLine_13 : decode cX11_oneLine 13 = .ok (.goto 5, 3) := by decide +kernel
theorem dX11_oneLine_16 : decode cX11_oneLine 16 = .ok (.bipush 16, 2) := by decide +kernel
theorem dX11_oneLine_18 : decode cX11_oneLine 18 = .ok (.istore_n 2, 1) := by decide +kernel
theorem dX11_oneLine_19 : decode cX11_oneLine 19 = .ok (.aload_n 0, 1) := by decide +kernel
theorem dX11_oneLine_20 : decode cX11_oneLine 20 = .ok (.getfield 267, 3) := by decide +kernel
theorem dX11_oneLine_23 : decode cX11_oneLine 23 = .ok (.bipush 16, 2) := by decide +kernel
theorem dX11_oneLine_25 : decode cX11_oneLine 25 = .ok (.if_icmp .ne 12, 3) := by decide +kernel
theorem dX11_oneLine_28 : decode cX11_oneLine 28 = .ok (.aload_n 0, 1) := by decide +kernel
theorem dX11_oneLine_29 : decode cX11_oneLine 29 = .ok (.iconst 3, 1) := by decide +kernel
theorem dX11_oneLine_30 : decode cX11_oneLine 30 = .ok (.aload_n 0, 1) := by decide +kernel
theorem dX11_oneLine_31 : decode cX11_oneLine 31 = .ok (.getfield 175, 3) := by decide +kernel
theorem dX11_oneLine_34 : decode cX11_oneLine 34 = .ok (.invokevirtual 255, 3) := by decide +kernel
theorem dX11_oneLine_37 : decode cX11_oneLine 37 = .ok (.aload_n 0, 1) := by decide +kernel
theorem dX11_oneLine_38 : decode cX11_oneLine 38 = .ok (.getfield 77, 3) := by decide +kernel
theorem dX11_oneLine_41 : decode cX11_oneLine 41 = .ok (.iload_n 2, 1) := by decide +kernel
theorem dX11_oneLine_42 : decode cX11_oneLine 42 = .ok (.iconst 0, 1) := by decide +kernel
theorem dX11_oneLine_43 : decode cX11_oneLine 43 = .ok (.iastore, 1) := by decide +kernel
theorem dX11_oneLine_44 : decode cX11_oneLine 44 = .ok (.aload_n 0, 1) := by decide +kernel
theorem dX11_oneLine_45 : decode cX11_oneLine 45 = .ok (.ldc2_w 270, 3) := by decide +kernel
theorem dX11_oneLine_48 : decode cX11_oneLine 48 = .ok (.invokevirtual 209, 3) := by decide +kernel
theorem dX11_oneLine_51 : decode cX11_oneLine 51 = .ok (.ifCond .eq 54, 3) := by decide +kernel
theorem dX11_oneLine_54 : decode cX11_oneLine 54 = .ok (.iconst 1, 1) := by decide +kernel
theorem dX11_oneLine_55 : decode cX11_oneLine 55 = .ok (.istore_n 3, 1) := by decide +kernel
theorem dX11_oneLine_56 : decode cX11_oneLine 56 = .ok (.iconst 0, 1) := by decide +kernel
theorem dX11_oneLine_57 : decode cX11_oneLine 57 = .ok (.istore 4, 2) := by decide +kernel
theorem dX11_oneLine_59 : decode cX11_oneLine 59 = .ok (.iload_n 3, 1) := by decide +kernel
theorem dX11_oneLine_60 : decode cX11_oneLine 60 = .ok (.ifCond .eq 34, 3) := by decide +kernel
theorem dX11_oneLine_63 : decode cX11_oneLine 63 = .ok (.aload_n 0, 1) := by decide +kernel
theorem dX11_oneLine_64 : decode cX11_oneLine 64 = .ok (.invokevirtual 204, 3) := by decide +kernel
theorem dX11_oneLine_67 : decode cX11_oneLine 67 = .ok (.aload_n 0, 1) := by decide +kernel
theorem dX11_oneLine_68 : decode cX11_oneLine 68 = .ok (.iload_n 1, 1) := by decide +kernel
theorem dX11_oneLine_69 : decode cX11_oneLine 69 = .ok (.iload_n 2, 1) := by decide +kernel
theorem dX11_oneLine_70 : decode cX11_oneLine 70 = .ok (.iload 4, 2) := by decide +kernel
theorem dX11_oneLine_72 : decode cX11_oneLine 72 = .ok (.invokevirtual 272, 3) := by decide +kernel
theorem dX11_oneLine_75 : decode cX11_oneLine 75 = .ok (.ifCond .ne 5, 3) := by decide +kernel
theorem dX11_oneLine_78 : decode cX11_oneLine 78 = .ok (.iconst 0, 1) := by decide +kernel
theorem dX11_oneLine_79 : decode cX11_oneLine 79 = .ok (.ireturn, 1) := by decide +kernel
theorem dX11_oneLine_80 : decode cX11_oneLine 80 = .ok (.aload_n 0, 1) := by decide +kernel
theorem dX11_oneLine_81 : decode cX11_oneLine 81 = .ok (.ldc2_w 276, 3) := by decide +kernel
theorem dX11_oneLine_84 : decode cX11_oneLine 84 = .ok (.invokevirtual 209, 3) := by decide +kernel
theorem dX11_oneLine_87 : decode cX11_oneLine 87 = .ok (.istore_n 3, 1) := by decide +kernel
theorem dX11_oneLine_88 : decode cX11_oneLine 88 = .ok (.iinc 4 1, 3) := by decide +kernel
theorem dX11_oneLine_91 : decode cX11_oneLine 91 = .ok (.goto (-32), 3) := by decide +kernel
theorem dX11_oneLine_94 : decode cX11_oneLine 94 = .ok (.aload_n 0, 1) := by decide +kernel
theorem dX11_oneLine_95 : decode cX11_oneLine 95 = .ok (.bipush 58, 2) := by decide +kernel
theorem dX11_oneLine_97 : decode cX11_oneLine 97 = .ok (.invokevirtual 278, 3) := by decide +kernel
theorem dX11_oneLine_100 : decode cX11_oneLine 100 = .ok (.ifCond .ne 5, 3) := by decide +kernel
theorem dX11_oneLine_103 : decode cX11_oneLine 103 = .ok (.iconst 0, 1) := by decide +kernel
theorem dX11_oneLine_104 : decode cX11_oneLine 104 = .ok (.ireturn, 1) := by decide +kernel
theorem dX11_oneLine_105 : decode cX11_oneLine 105 = .ok (.aload_n 0, 1) := by decide +kernel
theorem dX11_oneLine_106 : decode cX11_oneLine 106 = .ok (.getfield 89, 3) := by decide +kernel
theorem dX11_oneLine_109 : decode cX11_oneLine 109 = .ok (.iload_n 2, 1) := by decide +kernel
theorem dX11_oneLine_110 : decode cX11_oneLine 110 = .ok (.aload_n 0, 1) := by decide +kernel
theorem dX11_oneLine_111 : decode cX11_oneLine 111 = .ok (.iload_n 1, 1) := by decide +kernel
theorem dX11_oneLine_112 : decode cX11_oneLine 112 = .ok (.invokevirtual 281, 3) := by decide +kernel
theorem dX11_oneLine_115 : decode cX11_oneLine 115 = .ok (.iastore, 1) := by decide +kernel
theorem dX11_oneLine_116 : decode cX11_oneLine 116 = .ok (.aload_n 0, 1) := by decide +kernel
theorem dX11_oneLine_117 : decode cX11_oneLine 117 = .ok (.getfield 89, 3) := by decide +kernel
theorem dX11_oneLine_120 : decode cX11_oneLine 120 = .ok (.iload_n 2, 1) := by decide +kernel
theorem dX11_oneLine_121 : decode cX11_oneLine 121 = .ok (.iaload, 1) := by decide +kernel
theorem dX11_oneLine_122 : decode cX11_oneLine 122 = .ok (.iconst (-1), 1) := by decide +kernel
theorem dX11_oneLine_123 : decode cX11_oneLine 123 = .ok (.if_icmp .ne 8, 3) := by decide +kernel
theorem dX11_oneLine_126 : decode cX11_oneLine 126 = .ok (.aload_n 0, 1) := by decide +kernel
theorem dX11_oneLine_127 : decode cX11_oneLine 127 = .ok (.invokevirtual 200, 3) := by decide +kernel
theorem dX11_oneLine_130 : decode cX11_oneLine 130 = .ok (.ireturn, 1) := by decide +kernel
theorem dX11_oneLine_131 : decode cX11_oneLine 131 = .ok (.aload_n 0, 1) := by decide +kernel
theorem dX11_oneLine_132 : decode cX11_oneLine 132 = .ok (.invokevirtual 204, 3) := by decide +kernel
theorem dX11_oneLine_135 : decode cX11_oneLine 135 = .ok (.iload_n 1, 1) := by decide +kernel
theorem dX11_oneLine_136 : decode cX11_oneLine 136 = .ok (.ifCond .ne 23, 3) := by decide +kernel
theorem dX11_oneLine_139 : decode cX11_oneLine 139 = .ok (.aload_n 0, 1) := by decide +kernel
theorem dX11_oneLine_140 : decode cX11_oneLine 140 = .ok (.getfield 89, 3) := by decide +kernel
theorem dX11_oneLine_143 : decode cX11_oneLine 143 = .ok (.iload_n 2, 1) := by decide +kernel
theorem dX11_oneLine_144 : decode cX11_oneLine 144 = .ok (.iaload, 1) := by decide +kernel
theorem dX11_oneLine_145 : decode cX11_oneLine 145 = .ok (.iconst 2, 1) := by decide +kernel
theorem dX11_oneLine_146 : decode cX11_oneLine 146 = .ok (.if_icmp .ge 13, 3) := by decide +kernel
theorem dX11_oneLine_149 : decode cX11_oneLine 149 = .ok (.aload_n 0, 1) := by decide +kernel
theorem dX11_oneLine_150 : decode cX11_oneLine 150 = .ok (.iload_n 2, 1) := by decide +kernel
theorem dX11_oneLine_151 : decode cX11_oneLine 151 = .ok (.invokevirtual 284, 3) := by decide +kernel
theorem dX11_oneLine_154 : decode cX11_oneLine 154 = .ok (.ifCond .ne 5, 3) := by decide +kernel
theorem dX11_oneLine_157 : decode cX11_oneLine 157 = .ok (.iconst 0, 1) := by decide +kernel
theorem dX11_oneLine_158 : decode cX11_oneLine 158 = .ok (.ireturn, 1) := by decide +kernel
theorem dX11_oneLine_159 : decode cX11_oneLine 159 = .ok (.aload_n 0, 1) := by decide +kernel
theorem dX11_oneLine_160 : decode cX11_oneLine 160 = .ok (.dup, 1) := by decide +kernel
theorem dX11_oneLine_161 : decode cX11_oneLine 161 = .ok (.getfield 267, 3) := by decide +kernel
theorem dX11_oneLine_164 : decode cX11_oneLine 164 = .ok (.iconst 1, 1) := by decide +kernel
theorem dX11_oneLine_165 : decode cX11_oneLine 165 = .ok (.iadd, 1) := by decide +kernel
theorem dX11_oneLine_166 : decode cX11_oneLine 166 = .ok (.putfield 267, 3) := by decide +kernel
theorem dX11_oneLine_169 : decode cX11_oneLine 169 = .ok (.aload_n 0, 1) := by decide +kernel
theorem dX11_oneLine_170 : decode cX11_oneLine 170 = .ok (.bipush 59, 2) := by decide +kernel
theorem dX11_oneLine_172 : decode cX11_oneLine 172 = .ok (.invokevirtual 278, 3) := by decide +kernel
theorem dX11_oneLine_175 : decode cX11_oneLine 175 = .ok (.ireturn, 1) := by decide +kernel
theorem dX11_text_0 : decode cX11_text 0 = .ok (.aload_n 0, 1) := by decide +kernel
theorem dX11_text_1 : decode cX11_text 1 = .ok (.iconst 0, 1) := by decide +kernel
theorem dX11_text_2 : decode cX11_text 2 = .ok (.putfield 130, 3) := by decide +kernel
theorem dX11_text_5 : decode cX11_text 5 = .ok (.aload_n 0, 1) := by decide +kernel
theorem dX11_text_6 : decode cX11_text 6 = .ok (.aload_n 0, 1) := by decide +kernel
theorem dX11_text_7 : decode cX11_text 7 = .ok (.getfield 13, 3) := by decide +kernel
theorem dX11_text_10 : decode cX11_text 10 = .ok (.iconst 0, 1) := by decide +kernel
theorem dX11_text_11 : decode cX11_text 11 = .ok (.iaload, 1) := by decide +kernel
theorem dX11_text_12 : decode cX11_text 12 = .ok (.putfield 169, 3) := by decide +kernel
theorem dX11_text_15 : decode cX11_text 15 = .ok (.aload_n 0, 1) := by decide +kernel
theorem dX11_text_16 : decode cX11_text 16 = .ok (.getfield 13, 3) := by decide +kernel
theorem dX11_text_19 : decode cX11_text 19 = .ok (.iconst 0, 1) := by decide +kernel
theorem dX11_text_20 : decode cX11_text 20 = .ok (.iconst 0, 1) := by decide +kernel
theorem dX11_text_21 : decode cX11_text 21 = .ok (.iastore, 1) := by decide +kernel
theorem dX11_text_22 : decode cX11_text 22 = .ok (.aload_n 0, 1) := by decide +kernel
theorem dX11_text_23 : decode cX11_text 23 = .ok (.getfield 17, 3) := by decide +kernel
theorem dX11_text_26 : decode cX11_text 26 = .ok (.iconst 0, 1) := by decide +kernel
theorem dX11_text_27 : decode cX11_text 27 = .ok (.iconst 0, 1) := by decide +kernel
theorem dX11_text_28 : decode cX11_text 28 = .ok (.iastore, 1) := by decide +kernel
theorem dX11_text_29 : decode cX11_text 29 = .ok (.aload_n 0, 1) := by decide +kernel
theorem dX11_text_30 : decode cX11_text 30 = .ok (.getfield 20, 3) := by decide +kernel
theorem dX11_text_33 : decode cX11_text 33 = .ok (.iconst 0, 1) := by decide +kernel
theorem dX11_text_34 : decode cX11_text 34 = .ok (.iconst (-1), 1) := by decide +kernel
theorem dX11_text_35 : decode cX11_text 35 = .ok (.iastore, 1) := by decide +kernel
theorem dX11_text_36 : decode cX11_text 36 = .ok (.aload_n 0, 1) := by decide +kernel
theorem dX11_text_37 : decode cX11_text 37 = .ok (.iconst 0, 1) := by decide +kernel
theorem dX11_text_38 : decode cX11_text 38 = .ok (.putfield 166, 3) := by decide +kernel
theorem dX11_text_41 : decode cX11_text 41 = .ok (.aload_n 0, 1) := by decide +kernel
theorem dX11_text_42 : decode cX11_text 42 = .ok (.iconst (-1), 1) := by decide +kernel
theorem dX11_text_43 : decode cX11_text 43 = .ok (.putfield 188, 3) := by decide +kernel
theorem dX11_text_46 : decode cX11_text 46 = .ok (.aload_n 0, 1) := by decide +kernel
theorem dX11_text_47 : decode cX11_text 47 = .ok (.iconst 0, 1) := by decide +kernel
theorem dX11_text_48 : decode cX11_text 48 = .ok (.putfield 191, 3) := by decide +kernel
theorem dX11_text_51 : decode cX11_text 51 = .ok (.aload_n 0, 1) := by decide +kernel
theorem dX11_text_52 : decode cX11_text 52 = .ok (.iconst 0, 1) := by decide +kernel
theorem dX11_text_53 : decode cX11_text 53 = .ok (.putfield 267, 3) := by decide +kernel
theorem dX11_text_56 : decode cX11_text 56 = .ok (.iconst 1, 1) := by decide +kernel
theorem dX11_text_57 : decode cX11_text 57 = .ok (.istore_n 2, 1) := by decide +kernel
theorem dX11_text_58 : decode cX11_text 58 = .ok (.aload_n 0, 1) := by decide +kernel
theorem dX11_text_59 : decode cX11_text 59 = .ok (.invokevirtual 204, 3) := by decide +kernel
theorem dX11_text_62 : decode cX11_text 62 = .ok (.iload_n 2, 1) := by decide +kernel
theorem dX11_text_63 : decode cX11_text 63 = .ok (.ifCond .eq 19, 3) := by decide +kernel
theorem dX11_text_66 : decode cX11_text 66 = .ok (.aload_n 0, 1) := by decide +kernel
theorem dX11_text_67 : decode cX11_text 67 = .ok (.getfield 185, 3) := by decide +kernel
theorem dX11_text_70 : decode cX11_text 70 = .ok (.ifCond .eq 12, 3) := by decide +kernel
theorem dX11_text_73 : decode cX11_text 73 = .ok (.aload_n 0, 1) := by decide +kernel
theorem dX11_text_74 : decode cX11_text 74 = .ok (.iload_n 1, 1) := by decide +kernel
theorem dX11_text_75 : decode cX11_text 75 = .ok (.invokevirtual 287, 3) := by decide +kernel
theorem dX11_text_78 : decode cX11_text 78 = .ok (.istore_n 2, 1) := by decide +kernel
theorem dX11_text_79 : decode cX11_text 79 = .ok (.goto (-17), 3) := by decide +kernel
theorem dX11_text_82 : decode cX11_text 82 = .ok (.iload_n 2, 1) := by decide +kernel
theorem dX11_text_83 : decode cX11_text 83 = .ok (.ifCond .eq 10, 3) := by decide +kernel
theorem dX11_text_86 : decode cX11_text 86 = .ok (.aload_n 0, 1) := by decide +kernel
theorem dX11_text_87 : decode cX11_text 87 = .ok (.getfield 191, 3) := by decide +kernel
theorem dX11_text_90 : decode cX11_text 90 = .ok (.ifCond .le 44, 3) := by decide +kernel
theorem dX11_text_93 : decode cX11_text 93 = .ok (.aload_n 0, 1) := by decide +kernel
theorem dX11_text_94 : decode cX11_text 94 = .ok (.getfield 17, 3) := by decide +kernel
theorem dX11_text_97 : decode cX11_text 97 = .ok (.iconst 0, 1) := by decide +kernel
theorem dX11_text_98 : decode cX11_text 98 = .ok (.iload_n 2, 1) := by decide +kernel
theorem dX11_text_99 : decode cX11_text 99 = .ok (.ifCond .eq 10, 3) := by decide +kernel
theorem dX11_text_102 : decode cX11_text 102 = .ok (.aload_n 0, 1) := by decide +kernel
theorem dX11_text_103 : decode cX11_text 103 = .ok (.getfield 191, 3) := by decide +kernel
theorem dX11_text_106 : decode cX11_text 106 = .ok (.goto 4, 3) := by decide +kernel
theorem dX11_text_109 : decode cX11_text 109 = .ok (.iconst 1, 1) := by decide +kernel
theorem dX11_text_110 : decode cX11_text 110 = .ok (.iastore, 1) := by decide +kernel
theorem dX11_text_111 : decode cX11_text 111 = .ok (.aload_n 0, 1) := by decide +kernel
theorem dX11_text_112 : decode cX11_text 112 = .ok (.getfield 20, 3) := by decide +kernel
theorem dX11_text_115 : decode cX11_text 115 = .ok (.iconst 0, 1) := by decide +kernel
theorem dX11_text_116 : decode cX11_text 116 = .ok (.iload_n 2, 1) := by decide +kernel
theorem dX11_text_117 : decode cX11_text 117 = .ok (.ifCond .eq 10, 3) := by decide +kernel
theorem dX11_text_120 : decode cX11_text 120 = .ok (.aload_n 0, 1) := by decide +kernel
theorem dX11_text_121 : decode cX11_text 121 = .ok (.getfield 194, 3) := by decide +kernel
theorem dX11_text_124 : decode cX11_text 124 = .ok (.goto 7, 3) := by decide +kernel
theorem dX11_text_127 : decode cX11_text 127 = .ok (.aload_n 0, 1) := by decide +kernel
theorem dX11_text_128 : decode cX11_text 128 = .ok (.getfield 188, 3) := by decide +kernel
theorem dX11_text_131 : decode cX11_text 131 = .ok (.iastore, 1) := by decide +kernel
theorem dX11_text_132 : decode cX11_text 132 = .ok (.iconst (-1), 1) := by decide +kernel
theorem dX11_text_133 : decode cX11_text 133 = .ok (.ireturn, 1) := by decide +kernel
theorem dX11_text_134 : decode cX11_text 134 = .ok (.iload_n 1, 1) := by decide +kernel
theorem dX11_text_135 : decode cX11_text 135 = .ok (.ifCond .eq 8, 3) := by decide +kernel
theorem dX11_text_138 : decode cX11_text 138 = .ok (.bipush 16, 2) := by decide +kernel
theorem dX11_text_140 : decode cX11_text 140 = .ok (.goto 4, 3) := by decide +kernel
theorem dX11_text_143 : decode cX11_text 143 = .ok (.iconst 0, 1) := by decide +kernel
theorem dX11_text_144 : decode cX11_text 144 = .ok (.istore_n 3, 1) := by decide +kernel
theorem dX11_text_145 : decode cX11_text 145 = .ok (.aload_n 0, 1) := by decide +kernel
theorem dX11_text_146 : decode cX11_text 146 = .ok (.getfield 53, 3) := by decide +kernel
theorem dX11_text_149 : decode cX11_text 149 = .ok (.iload_n 1, 1) := by decide +kernel
theorem dX11_text_150 : decode cX11_text 150 = .ok (.ifCond .eq 7, 3) := by decide +kernel
theorem dX11_text_153 : decode cX11_text 153 = .ok (.iconst 1, 1) := by decide +kernel
theorem dX11_text_154 : decode cX11_text 154 = .ok (.goto 4, 3) := by decide +kernel
theorem dX11_text_157 : decode cX11_text 157 = .ok (.iconst 0, 1) := by decide +kernel
theorem dX11_text_158 : decode cX11_text 158 = .ok (.aload_n 0, 1) := by decide +kernel
theorem dX11_text_159 : decode cX11_text 159 = .ok (.getfield 267, 3) := by decide +kernel
theorem dX11_text_162 : decode cX11_text 162 = .ok (.iastore, 1) := by decide +kernel
theorem dX11_text_163 : decode cX11_text 163 = .ok (.iconst 0, 1) := by decide +kernel
theorem dX11_text_164 : decode cX11_text 164 = .ok (.istore 4, 2) := by decide +kernel
theorem dX11_text_166 : decode cX11_text 166 = .ok (.iload 4, 2) := by decide +kernel
theorem dX11_text_168 : decode cX11_text 168 = .ok (.aload_n 0, 1) := by decide +kernel
theorem dX11_text_169 : decode cX11_text 169 = .ok (.getfield 267, 3) := by decide +kernel
theorem dX11_text_172 : decode cX11_text 172 = .ok (.if_icmp .ge 172, 3) := by decide +kernel
theorem dX11_text_175 : decode cX11_text 175 = .ok (.aload_n 0, 1) := by decide +kernel
theorem dX11_text_176 : decode cX11_text 176 = .ok (.getfield 56, 3) := by decide +kernel
theorem dX11_text_179 : decode cX11_text 179 = .ok (.iload_n 3, 1) := by decide +kernel
theorem dX11_text_180 : decode cX11_text 180 = .ok (.iload 4, 2) := by decide +kernel
theorem dX11_text_182 : decode cX11_text 182 = .ok (.iadd, 1) := by decide +kernel
theorem dX11_text_183 : decode cX11_text 183 = .ok (.aload_n 0, 1) := by decide +kernel
theorem dX11_text_184 : decode cX11_text 184 = .ok (.getfield 77, 3) := by decide +kernel
theorem dX11_text_187 : decode cX11_text 187 = .ok (.iload 4, 2) := by decide +kernel
theorem dX11_text_189 : decode cX11_text 189 = .ok (.iaload, 1) := by decide +kernel
theorem dX11_text_190 : decode cX11_text 190 = .ok (.iastore, 1) := by decide +kernel
theorem dX11_text_191 : decode cX11_text 191 = .ok (.aload_n 0, 1) := by decide +kernel
theorem dX11_text_192 : decode cX11_text 192 = .ok (.getfield 68, 3) := by decide +kernel
theorem dX11_text_195 : decode cX11_text 195 = .ok (.iload_n 3, 1) := by decide +kernel
theorem dX11_text_196 : decode cX11_text 196 = .ok (.iload 4, 2) := by decide +kernel
theorem dX11_text_198 : decode cX11_text 198 = .ok (.iadd, 1) := by decide +kernel
theorem dX11_text_199 : decode cX11_text 199 = .ok (.aload_n 0, 1) := by decide +kernel
theorem dX11_text_200 : decode cX11_text 200 = .ok (.getfield 89, 3) := by decide +kernel
theorem dX11_text_203 : decode cX11_text 203 = .ok (.iload 4, 2) := by decide +kernel
theorem dX11_text_205 : decode cX11_text 205 = .ok (.iaload, 1) := by decide +kernel
theorem dX11_text_206 : decode cX11_text 206 = .ok (.iastore, 1) := by decide +kernel
theorem dX11_text_207 : decode cX11_text 207 = .ok (.aload_n 0, 1) := by decide +kernel
theorem dX11_text_208 : decode cX11_text 208 = .ok (.getfield 71, 3) := by decide +kernel
theorem dX11_text_211 : decode cX11_text 211 = .ok (.iload_n 3, 1) := by decide +kernel
theorem dX11_text_212 : decode cX11_text 212 = .ok (.iload 4, 2) := by decide +kernel
theorem dX11_text_214 : decode cX11_text 214 = .ok (.iadd, 1) := by decide +kernel
theorem dX11_text_215 : decode cX11_text 215 = .ok (.aload_n 0, 1) := by decide +kernel
theorem dX11_text_216 : decode cX11_text 216 = .ok (.getfield 92, 3) := by decide +kernel
theorem dX11_text_219 : decode cX11_text 219 = .ok (.iload 4, 2) := by decide +kernel
theorem dX11_text_221 : decode cX11_text 221 = .ok (.iaload, 1) := by decide +kernel
theorem dX11_text_222 : decode cX11_text 222 = .ok (.iastore, 1) := by decide +kernel
theorem dX11_text_223 : decode cX11_text 223 = .ok (.aload_n 0, 1) := by decide +kernel
theorem dX11_text_224 : decode cX11_text 224 = .ok (.getfield 74, 3) := by decide +kernel
theorem dX11_text_227 : decode cX11_text 227 = .ok (.iload_n 3, 1) := by decide +kernel
theorem dX11_text_228 : decode cX11_text 228 = .ok (.iload 4, 2) := by decide +kernel
theorem dX11_text_230 : decode cX11_text 230 = .ok (.iadd, 1) := by decide +kernel
theorem dX11_text_231 : decode cX11_text 231 = .ok (.aload_n 0, 1) := by decide +kernel
theorem dX11_text_232 : decode cX11_text 232 = .ok (.getfield 95, 3) := by decide +kernel
theorem dX11_text_235 : decode cX11_text 235 = .ok (.iload 4, 2) := by decide +kernel
theorem dX11_text_237 : decode cX11_text 237 = .ok (.iaload, 1) := by decide +kernel
theorem dX11_text_238 : decode cX11_text 238 = .ok (.iastore, 1) := by decide +kernel
theorem dX11_text_239 : decode cX11_text 239 = .ok (.iconst 0, 1) := by decide +kernel
theorem dX11_text_240 : decode cX11_text 240 = .ok (.istore 5, 2) := by decide +kernel
theorem dX11_text_242 : decode cX11_text 242 = .ok (.iload 5, 2) := by decide +kernel
theorem dX11_text_244 : decode cX11_text 244 = .ok (.aload_n 0, 1) := by decide +kernel
theorem dX11_text_245 : decode cX11_text 245 = .ok (.getfield 77, 3) := by decide +kernel
theorem dX11_text_248 : decode cX11_text 248 = .ok (.iload 4, 2) := by decide +kernel
theorem dX11_text_250 : decode cX11_text 250 = .ok (.iaload, 1) := by decide +kernel
theorem dX11_text_251 : decode cX11_text 251 = .ok (.if_icmp .ge 87, 3) := by decide +kernel
theorem dX11_text_254 : decode cX11_text 254 = .ok (.aload_n 0, 1) := by decide +kernel
theorem dX11_text_255 : decode cX11_text 255 = .ok (.getfield 59, 3) := by decide +kernel
theorem dX11_text_258 : decode cX11_text 258 = .ok (.iconst 4, 1) := by decide +kernel
theorem dX11_text_259 : decode cX11_text 259 = .ok (.iload_n 3, 1) := by decide +kernel
theorem dX11_text_260 : decode cX11_text 260 = .ok (.iload 4, 2) := by decide +kernel
theorem dX11_text_262 : decode cX11_text 262 = .ok (.iadd, 1) := by decide +kernel
theorem dX11_text_263 : decode cX11_text 263 = .ok (.imul, 1) := by decide +kernel
theorem dX11_text_264 : decode cX11_text 264 = .ok (.iload 5, 2) := by decide +kernel
theorem dX11_text_266 : decode cX11_text 266 = .ok (.iadd, 1) := by decide +kernel
theorem dX11_text_267 : decode cX11_text 267 = .ok (.aload_n 0, 1) := by decide +kernel
theorem dX11_text_268 : decode cX11_text 268 = .ok (.getfield 80, 3) := by decide +kernel
theorem dX11_text_271 : decode cX11_text 271 = .ok (.iconst 4, 1) := by decide +kernel
theorem dX11_text_272 : decode cX11_text 272 = .ok (.iload 4, 2) := by decide +kernel
theorem dX11_text_274 : decode cX11_text 274 = .ok (.imul, 1) := by decide +kernel
theorem dX11_text_275 : decode cX11_text 275 = .ok (.iload 5, 2) := by decide +kernel
theorem dX11_text_277 : decode cX11_text 277 = .ok (.iadd, 1) := by decide +kernel
theorem dX11_text_278 : decode cX11_text 278 = .ok (.iaload, 1) := by decide +kernel
theorem dX11_text_279 : decode cX11_text 279 = .ok (.iastore, 1) := by decide +kernel
theorem dX11_text_280 : decode cX11_text 280 = .ok (.aload_n 0, 1) := by decide +kernel
theorem dX11_text_281 : decode cX11_text 281 = .ok (.getfield 62, 3) := by decide +kernel
theorem dX11_text_284 : decode cX11_text 284 = .ok (.iconst 4, 1) := by decide +kernel
theorem dX11_text_285 : decode cX11_text 285 = .ok (.iload_n 3, 1) := by decide +kernel
theorem dX11_text_286 : decode cX11_text 286 = .ok (.iload 4, 2) := by decide +kernel
theorem dX11_text_288 : decode cX11_text 288 = .ok (.iadd, 1) := by decide +kernel
theorem dX11_text_289 : decode cX11_text 289 = .ok (.imul, 1) := by decide +kernel
theorem dX11_text_290 : decode cX11_text 290 = .ok (.iload 5, 2) := by decide +kernel
theorem dX11_text_292 : decode cX11_text 292 = .ok (.iadd, 1) := by decide +kernel
theorem dX11_text_293 : decode cX11_text 293 = .ok (.aload_n 0, 1) := by decide +kernel
theorem dX11_text_294 : decode cX11_text 294 = .ok (.getfield 83, 3) := by decide +kernel
theorem dX11_text_297 : decode cX11_text 297 = .ok (.iconst 4, 1) := by decide +kernel
theorem dX11_text_298 : decode cX11_text 298 = .ok (.iload 4, 2) := by decide +kernel
theorem dX11_text_300 : decode cX11_text 300 = .ok (.imul, 1) := by decide +kernel
theorem dX11_text_301 : decode cX11_text 301 = .ok (.iload 5, 2) := by decide +kernel
theorem dX11_text_303 : decode cX11_text 303 = .ok (.iadd, 1) := by decide +kernel
theorem dX11_text_304 : decode cX11_text 304 = .ok (.iaload, 1) := by decide +kernel
theorem dX11_text_305 : decode cX11_text 305 = .ok (.iastore, 1) := by decide +kernel
theorem dX11_text_306 : decode cX11_text 306 = .ok (.aload_n 0, 1) := by decide +kernel
theorem dX11_text_307 : decode cX11_text 307 = .ok (.getfield 65, 3) := by decide +kernel
theorem dX11_text_310 : decode cX11_text 310 = .ok (.iconst 4, 1) := by decide +kernel
theorem dX11_text_311 : decode cX11_text 311 = .ok (.iload_n 3, 1) := by decide +kernel
theorem dX11_text_312 : decode cX11_text 312 = .ok (.iload 4, 2) := by decide +kernel
theorem dX11_text_314 : decode cX11_text 314 = .ok (.iadd, 1) := by decide +kernel
theorem dX11_text_315 : decode cX11_text 315 = .ok (.imul, 1) := by decide +kernel
theorem dX11_text_316 : decode cX11_text 316 = .ok (.iload 5, 2) := by decide +kernel
theorem dX11_text_318 : decode cX11_text 318 = .ok (.iadd, 1) := by decide +kernel
theorem dX11_text_319 : decode cX11_text 319 = .ok (.aload_n 0, 1) := by decide +kernel
theorem dX11_text_320 : decode cX11_text 320 = .ok (.getfield 86, 3) := by decide +kernel
theorem dX11_text_323 : decode cX11_text 323 = .ok (.iconst 4, 1) := by decide +kernel
theorem dX11_text_324 : decode cX11_text 324 = .ok (.iload 4, 2) := by decide +kernel
theorem dX11_text_326 : decode cX11_text 326 = .ok (.imul, 1) := by decide +kernel
theorem dX11_text_327 : decode cX11_text 327 = .ok (.iload 5, 2) := by decide +kernel
theorem dX11_text_329 : decode cX11_text 329 = .ok (.iadd, 1) := by decide +kernel
theorem dX11_text_330 : decode cX11_text 330 = .ok (.iaload, 1) := by decide +kernel
theorem dX11_text_331 : decode cX11_text 331 = .ok (.iastore, 1) := by decide +kernel
theorem dX11_text_332 : decode cX11_text 332 = .ok (.iinc 5 1, 3) := by decide +kernel
theorem dX11_text_335 : decode cX11_text 335 = .ok (.goto (-93), 3) := by decide +kernel
theorem dX11_text_338 : decode cX11_text 338 = .ok (.iinc 4 1, 3) := by decide +kernel
theorem dX11_text_341 : decode cX11_text 341 = .ok (.goto (-175), 3) := by decide +kernel
theorem dX11_text_344 : decode cX11_text 344 = .ok (.aload_n 0, 1) := by decide +kernel
theorem dX11_text_345 : decode cX11_text 345 = .ok (.getfield 267, 3) := by decide +kernel
theorem dX11_text_348 : decode cX11_text 348 = .ok (.ireturn, 1) := by decide +kernel
theorem dX11_fault_0 : decode cX11_fault 0 = .ok (.aload_n 0, 1) := by decide +kernel
theorem dX11_fault_1 : decode cX11_fault 1 = .ok (.iconst 0, 1) := by decide +kernel
theorem dX11_fault_2 : decode cX11_fault 2 = .ok (.putfield 130, 3) := by decide +kernel
theorem dX11_fault_5 : decode cX11_fault 5 = .ok (.iload_n 1, 1) := by decide +kernel
theorem dX11_fault_6 : decode cX11_fault 6 = .ok (.ifCond .ne 12, 3) := by decide +kernel
theorem dX11_fault_9 : decode cX11_fault 9 = .ok (.aload_n 0, 1) := by decide +kernel
theorem dX11_fault_10 : decode cX11_fault 10 = .ok (.getfield 17, 3) := by decide +kernel
theorem dX11_fault_13 : decode cX11_fault 13 = .ok (.iconst 0, 1) := by decide +kernel
theorem dX11_fault_14 : decode cX11_fault 14 = .ok (.iaload, 1) := by decide +kernel
theorem dX11_fault_15 : decode cX11_fault 15 = .ok (.goto 18, 3) := by decide +kernel
theorem dX11_fault_18 : decode cX11_fault 18 = .ok (.iload_n 1, 1) := by decide +kernel
theorem dX11_fault_19 : decode cX11_fault 19 = .ok (.iconst 1, 1) := by decide +kernel
theorem dX11_fault_20 : decode cX11_fault 20 = .ok (.if_icmp .ne 12, 3) := by decide +kernel
theorem dX11_fault_23 : decode cX11_fault 23 = .ok (.aload_n 0, 1) := by decide +kernel
theorem dX11_fault_24 : decode cX11_fault 24 = .ok (.getfield 20, 3) := by decide +kernel
theorem dX11_fault_27 : decode cX11_fault 27 = .ok (.iconst 0, 1) := by decide +kernel
theorem dX11_fault_28 : decode cX11_fault 28 = .ok (.iaload, 1) := by decide +kernel
theorem dX11_fault_29 : decode cX11_fault 29 = .ok (.goto 4, 3) := by decide +kernel
theorem dX11_fault_32 : decode cX11_fault 32 = .ok (.iconst (-1), 1) := by decide +kernel
theorem dX11_fault_33 : decode cX11_fault 33 = .ok (.ireturn, 1) := by decide +kernel
theorem dX11_holds_0 : decode cX11_holds 0 = .ok (.iconst 4, 1) := by decide +kernel
theorem dX11_holds_1 : decode cX11_holds 1 = .ok (.iload_n 1, 1) := by decide +kernel
theorem dX11_holds_2 : decode cX11_holds 2 = .ok (.imul, 1) := by decide +kernel
theorem dX11_holds_3 : decode cX11_holds 3 = .ok (.istore_n 2, 1) := by decide +kernel
theorem dX11_holds_4 : decode cX11_holds 4 = .ok (.iload_n 2, 1) := by decide +kernel
theorem dX11_holds_5 : decode cX11_holds 5 = .ok (.iconst 4, 1) := by decide +kernel
theorem dX11_holds_6 : decode cX11_holds 6 = .ok (.iload_n 1, 1) := by decide +kernel
theorem dX11_holds_7 : decode cX11_holds 7 = .ok (.imul, 1) := by decide +kernel
theorem dX11_holds_8 : decode cX11_holds 8 = .ok (.aload_n 0, 1) := by decide +kernel
theorem dX11_holds_9 : decode cX11_holds 9 = .ok (.getfield 56, 3) := by decide +kernel
theorem dX11_holds_12 : decode cX11_holds 12 = .ok (.iload_n 1, 1) := by decide +kernel
theorem dX11_holds_13 : decode cX11_holds 13 = .ok (.iaload, 1) := by decide +kernel
theorem dX11_holds_14 : decode cX11_holds 14 = .ok (.iadd, 1) := by decide +kernel
theorem dX11_holds_15 : decode cX11_holds 15 = .ok (.if_icmp .ge 118, 3) := by decide +kernel
theorem dX11_holds_18 : decode cX11_holds 18 = .ok (.aload_n 0, 1) := by decide +kernel
theorem dX11_holds_19 : decode cX11_holds 19 = .ok (.getfield 98, 3) := by decide +kernel
theorem dX11_holds_22 : decode cX11_holds 22 = .ok (.aload_n 0, 1) := by decide +kernel
theorem dX11_holds_23 : decode cX11_holds 23 = .ok (.getfield 59, 3) := by decide +kernel
theorem dX11_holds_26 : decode cX11_holds 26 = .ok (.iload_n 2, 1) := by decide +kernel
theorem dX11_holds_27 : decode cX11_holds 27 = .ok (.iaload, 1) := by decide +kernel
theorem dX11_holds_28 : decode cX11_holds 28 = .ok (.bipush 7, 2) := by decide +kernel
theorem dX11_holds_30 : decode cX11_holds 30 = .ok (.iand, 1) := by decide +kernel
theorem dX11_holds_31 : decode cX11_holds 31 = .ok (.iaload, 1) := by decide +kernel
theorem dX11_holds_32 : decode cX11_holds 32 = .ok (.istore_n 3, 1) := by decide +kernel
theorem dX11_holds_33 : decode cX11_holds 33 = .ok (.aload_n 0, 1) := by decide +kernel
theorem dX11_holds_34 : decode cX11_holds 34 = .ok (.getfield 65, 3) := by decide +kernel
theorem dX11_holds_37 : decode cX11_holds 37 = .ok (.iload_n 2, 1) := by decide +kernel
theorem dX11_holds_38 : decode cX11_holds 38 = .ok (.iaload, 1) := by decide +kernel
theorem dX11_holds_39 : decode cX11_holds 39 = .ok (.istore 4, 2) := by decide +kernel
theorem dX11_holds_41 : decode cX11_holds 41 = .ok (.aload_n 0, 1) := by decide +kernel
theorem dX11_holds_42 : decode cX11_holds 42 = .ok (.getfield 62, 3) := by decide +kernel
theorem dX11_holds_45 : decode cX11_holds 45 = .ok (.iload_n 2, 1) := by decide +kernel
theorem dX11_holds_46 : decode cX11_holds 46 = .ok (.iaload, 1) := by decide +kernel
theorem dX11_holds_47 : decode cX11_holds 47 = .ok (.bipush 60, 2) := by decide +kernel
theorem dX11_holds_49 : decode cX11_holds 49 = .ok (.if_icmp .ne 17, 3) := by decide +kernel
theorem dX11_holds_52 : decode cX11_holds 52 = .ok (.iload_n 3, 1) := by decide +kernel
theorem dX11_holds_53 : decode cX11_holds 53 = .ok (.iload 4, 2) := by decide +kernel
theorem dX11_holds_55 : decode cX11_holds 55 = .ok (.if_icmp .ge 7, 3) := by decide +kernel
theorem dX11_holds_58 : decode cX11_holds 58 = .ok (.iconst 1, 1) := by decide +kernel
theorem dX11_holds_59 : decode cX11_holds 59 = .ok (.goto 43, 3) := by decide +kernel
theorem dX11_holds_62 : decode cX11_holds 62 = .ok (.iconst 0, 1) := by decide +kernel
theorem dX11_holds_63 : decode cX11_holds 63 = .ok (.goto 39, 3) := by decide +kernel
theorem dX11_holds_66 : decode cX11_holds 66 = .ok (.aload_n 0, 1) := by decide +kernel
theorem dX11_holds_67 : decode cX11_holds 67 = .ok (.getfield 62, 3) := by decide +kernel
theorem dX11_holds_70 : decode cX11_holds 70 = .ok (.iload_n 2, 1) := by decide +kernel
theorem dX11_holds_71 : decode cX11_holds 71 = .ok (.iaload, 1) := by decide +kernel
theorem dX11_holds_72 : decode cX11_holds 72 = .ok (.bipush 62, 2) := by decide +kernel
theorem dX11_holds_74 : decode cX11_holds 74 = .ok (.if_icmp .ne 17, 3) := by decide +kernel
theorem dX11_holds_77 : decode cX11_holds 77 = .ok (.iload_n 3, 1) := by decide +kernel
theorem dX11_holds_78 : decode cX11_holds 78 = .ok (.iload 4, 2) := by decide +kernel
theorem dX11_holds_80 : decode cX11_holds 80 = .ok (.if_icmp .le 7, 3) := by decide +kernel
theorem dX11_holds_83 : decode cX11_holds 83 = .ok (.iconst 1, 1) := by decide +kernel
theorem dX11_holds_84 : decode cX11_holds 84 = .ok (.goto 18, 3) := by decide +kernel
theorem dX11_holds_87 : decode cX11_holds 87 = .ok (.iconst 0, 1) := by decide +kernel
theorem dX11_holds_88 : decode cX11_holds 88 = .ok (.goto 14, 3) := by decide +kernel
theorem dX11_holds_91 : decode cX11_holds 91 = .ok (.iload_n 3, 1) := by decide +kernel
theorem dX11_holds_92 : decode cX11_holds 92 = .ok (.iload 4, 2) := by decide +kernel
theorem dX11_holds_94 : decode cX11_holds 94 = .ok (.if_icmp .ne 7, 3) := by decide +kernel
theorem dX11_holds_97 : decode cX11_holds 97 = .ok (.iconst 1, 1) := by decide +kernel
theorem dX11_holds_98 : decode cX11_holds 98 = .ok (.goto 4, 3) := by decide +kernel
theorem dX11_holds_101 : decode cX11_holds 101 = .ok (.iconst 0, 1) := by decide +kernel
theorem dX11_holds_102 : decode cX11_holds 102 = .ok (.istore 5, 2) := by decide +kernel
theorem dX11_holds_104 : decode cX11_holds 104 = .ok (.iload 5, 2) := by decide +kernel
theorem dX11_holds_106 : decode cX11_holds 106 = .ok (.aload_n 0, 1) := by decide +kernel
theorem dX11_holds_107 : decode cX11_holds 107 = .ok (.getfield 59, 3) := by decide +kernel
theorem dX11_holds_110 : decode cX11_holds 110 = .ok (.iload_n 2, 1) := by decide +kernel
theorem dX11_holds_111 : decode cX11_holds 111 = .ok (.iaload, 1) := by decide +kernel
theorem dX11_holds_112 : decode cX11_holds 112 = .ok (.bipush 7, 2) := by decide +kernel
theorem dX11_holds_114 : decode cX11_holds 114 = .ok (.if_icmp .le 7, 3) := by decide +kernel
theorem dX11_holds_117 : decode cX11_holds 117 = .ok (.iconst 1, 1) := by decide +kernel
theorem dX11_holds_118 : decode cX11_holds 118 = .ok (.goto 4, 3) := by decide +kernel
theorem dX11_holds_121 : decode cX11_holds 121 = .ok (.iconst 0, 1) := by decide +kernel
theorem dX11_holds_122 : decode cX11_holds 122 = .ok (.if_icmp .ne 5, 3) := by decide +kernel
theorem dX11_holds_125 : decode cX11_holds 125 = .ok (.iconst 0, 1) := by decide +kernel
theorem dX11_holds_126 : decode cX11_holds 126 = .ok (.ireturn, 1) := by decide +kernel
theorem dX11_holds_127 : decode cX11_holds 127 = .ok (.iinc 2 1, 3) := by decide +kernel
theorem dX11_holds_130 : decode cX11_holds 130 = .ok (.goto (-126), 3) := by decide +kernel
theorem dX11_holds_133 : decode cX11_holds 133 = .ok (.iconst 1, 1) := by decide +kernel
theorem dX11_holds_134 : decode cX11_holds 134 = .ok (.ireturn, 1) := by decide +kernel
theorem dX11_f_0 : decode cX11_f 0 = .ok (.aload_n 0, 1) := by decide +kernel
theorem dX11_f_1 : decode cX11_f 1 = .ok (.getfield 105, 3) := by decide +kernel
theorem dX11_f_4 : decode cX11_f 4 = .ok (.bipush 11, 2) := by decide +kernel
theorem dX11_f_6 : decode cX11_f 6 = .ok (.iload_n 1, 1) := by decide +kernel
theorem dX11_f_7 : decode cX11_f 7 = .ok (.imul, 1) := by decide +kernel
theorem dX11_f_8 : decode cX11_f 8 = .ok (.iload_n 2, 1) := by decide +kernel
theorem dX11_f_9 : decode cX11_f 9 = .ok (.iadd, 1) := by decide +kernel
theorem dX11_f_10 : decode cX11_f 10 = .ok (.iaload, 1) := by decide +kernel
theorem dX11_f_11 : decode cX11_f 11 = .ok (.ireturn, 1) := by decide +kernel
theorem dX11_held_0 : decode cX11_held 0 = .ok (.iload_n 0, 1) := by decide +kernel
theorem dX11_held_1 : decode cX11_held 1 = .ok (.sipush (-500), 3) := by decide +kernel
theorem dX11_held_4 : decode cX11_held 4 = .ok (.if_icmp .ge 9, 3) := by decide +kernel
theorem dX11_held_7 : decode cX11_held 7 = .ok (.sipush (-500), 3) := by decide +kernel
theorem dX11_held_10 : decode cX11_held 10 = .ok (.goto 17, 3) := by decide +kernel
theorem dX11_held_13 : decode cX11_held 13 = .ok (.iload_n 0, 1) := by decide +kernel
theorem dX11_held_14 : decode cX11_held 14 = .ok (.sipush 1000, 3) := by decide +kernel
theorem dX11_held_17 : decode cX11_held 17 = .ok (.if_icmp .le 9, 3) := by decide +kernel
theorem dX11_held_20 : decode cX11_held 20 = .ok (.sipush 1000, 3) := by decide +kernel
theorem dX11_held_23 : decode cX11_held 23 = .ok (.goto 4, 3) := by decide +kernel
theorem dX11_held_26 : decode cX11_held 26 = .ok (.iload_n 0, 1) := by decide +kernel
theorem dX11_held_27 : decode cX11_held 27 = .ok (.ireturn, 1) := by decide +kernel
theorem dX11_findSpan_0 : decode cX11_findSpan 0 = .ok (.aload_n 0, 1) := by decide +kernel
theorem dX11_findSpan_1 : decode cX11_findSpan 1 = .ok (.getfield 98, 3) := by decide +kernel
theorem dX11_findSpan_4 : decode cX11_findSpan 4 = .ok (.iconst 0, 1) := by decide +kernel
theorem dX11_findSpan_5 : decode cX11_findSpan 5 = .ok (.aload_n 0, 1) := by decide +kernel
theorem dX11_findSpan_6 : decode cX11_findSpan 6 = .ok (.iload_n 1, 1) := by decide +kernel
theorem dX11_findSpan_7 : decode cX11_findSpan 7 = .ok (.iconst 1, 1) := by decide +kernel
theorem dX11_findSpan_8 : decode cX11_findSpan 8 = .ok (.invokevirtual 291, 3) := by decide +kernel
theorem dX11_findSpan_11 : decode cX11_findSpan 11 = .ok (.iastore, 1) := by decide +kernel
theorem dX11_findSpan_12 : decode cX11_findSpan 12 = .ok (.aload_n 0, 1) := by decide +kernel
theorem dX11_findSpan_13 : decode cX11_findSpan 13 = .ok (.getfield 98, 3) := by decide +kernel
theorem dX11_findSpan_16 : decode cX11_findSpan 16 = .ok (.iconst 1, 1) := by decide +kernel
theorem dX11_findSpan_17 : decode cX11_findSpan 17 = .ok (.aload_n 0, 1) := by decide +kernel
theorem dX11_findSpan_18 : decode cX11_findSpan 18 = .ok (.iload_n 1, 1) := by decide +kernel
theorem dX11_findSpan_19 : decode cX11_findSpan 19 = .ok (.iconst 2, 1) := by decide +kernel
theorem dX11_findSpan_20 : decode cX11_findSpan 20 = .ok (.invokevirtual 291, 3) := by decide +kernel
theorem dX11_findSpan_23 : decode cX11_findSpan 23 = .ok (.iastore, 1) := by decide +kernel
theorem dX11_findSpan_24 : decode cX11_findSpan 24 = .ok (.aload_n 0, 1) := by decide +kernel
theorem dX11_findSpan_25 : decode cX11_findSpan 25 = .ok (.getfield 98, 3) := by decide +kernel
theorem dX11_findSpan_28 : decode cX11_findSpan 28 = .ok (.iconst 2, 1) := by decide +kernel
theorem dX11_findSpan_29 : decode cX11_findSpan 29 = .ok (.aload_n 0, 1) := by decide +kernel
theorem dX11_findSpan_30 : decode cX11_findSpan 30 = .ok (.iload_n 1, 1) := by decide +kernel
theorem dX11_findSpan_31 : decode cX11_findSpan 31 = .ok (.iconst 3, 1) := by decide +kernel
theorem dX11_findSpan_32 : decode cX11_findSpan 32 = .ok (.invokevirtual 291, 3) := by decide +kernel
theorem dX11_findSpan_35 : decode cX11_findSpan 35 = .ok (.iastore, 1) := by decide +kernel
theorem dX11_findSpan_36 : decode cX11_findSpan 36 = .ok (.aload_n 0, 1) := by decide +kernel
theorem dX11_findSpan_37 : decode cX11_findSpan 37 = .ok (.getfield 98, 3) := by decide +kernel
theorem dX11_findSpan_40 : decode cX11_findSpan 40 = .ok (.iconst 3, 1) := by decide +kernel
theorem dX11_findSpan_41 : decode cX11_findSpan 41 = .ok (.aload_n 0, 1) := by decide +kernel
theorem dX11_findSpan_42 : decode cX11_findSpan 42 = .ok (.iload_n 1, 1) := by decide +kernel
theorem dX11_findSpan_43 : decode cX11_findSpan 43 = .ok (.iconst 4, 1) := by decide +kernel
theorem dX11_findSpan_44 : decode cX11_findSpan 44 = .ok (.invokevirtual 291, 3) := by decide +kernel
theorem dX11_findSpan_47 : decode cX11_findSpan 47 = .ok (.iastore, 1) := by decide +kernel
theorem dX11_findSpan_48 : decode cX11_findSpan 48 = .ok (.aload_n 0, 1) := by decide +kernel
theorem dX11_findSpan_49 : decode cX11_findSpan 49 = .ok (.getfield 98, 3) := by decide +kernel
theorem dX11_findSpan_52 : decode cX11_findSpan 52 = .ok (.iconst 4, 1) := by decide +kernel
theorem dX11_findSpan_53 : decode cX11_findSpan 53 = .ok (.aload_n 0, 1) := by decide +kernel
theorem dX11_findSpan_54 : decode cX11_findSpan 54 = .ok (.iload_n 1, 1) := by decide +kernel
theorem dX11_findSpan_55 : decode cX11_findSpan 55 = .ok (.bipush 7, 2) := by decide +kernel
theorem dX11_findSpan_57 : decode cX11_findSpan 57 = .ok (.invokevirtual 291, 3) := by decide +kernel
theorem dX11_findSpan_60 : decode cX11_findSpan 60 = .ok (.iastore, 1) := by decide +kernel
theorem dX11_findSpan_61 : decode cX11_findSpan 61 = .ok (.aload_n 0, 1) := by decide +kernel
theorem dX11_findSpan_62 : decode cX11_findSpan 62 = .ok (.getfield 98, 3) := by decide +kernel
theorem dX11_findSpan_65 : decode cX11_findSpan 65 = .ok (.iconst 5, 1) := by decide +kernel
theorem dX11_findSpan_66 : decode cX11_findSpan 66 = .ok (.aload_n 0, 1) := by decide +kernel
theorem dX11_findSpan_67 : decode cX11_findSpan 67 = .ok (.iload_n 1, 1) := by decide +kernel
theorem dX11_findSpan_68 : decode cX11_findSpan 68 = .ok (.bipush 8, 2) := by decide +kernel
theorem dX11_findSpan_70 : decode cX11_findSpan 70 = .ok (.invokevirtual 291, 3) := by decide +kernel
theorem dX11_findSpan_73 : decode cX11_findSpan 73 = .ok (.iastore, 1) := by decide +kernel
theorem dX11_findSpan_74 : decode cX11_findSpan 74 = .ok (.aload_n 0, 1) := by decide +kernel
theorem dX11_findSpan_75 : decode cX11_findSpan 75 = .ok (.getfield 98, 3) := by decide +kernel
theorem dX11_findSpan_78 : decode cX11_findSpan 78 = .ok (.bipush 6, 2) := by decide +kernel
theorem dX11_findSpan_80 : decode cX11_findSpan 80 = .ok (.sipush 2000, 3) := by decide +kernel
theorem dX11_findSpan_83 : decode cX11_findSpan 83 = .ok (.aload_n 0, 1) := by decide +kernel
theorem dX11_findSpan_84 : decode cX11_findSpan 84 = .ok (.iload_n 1, 1) := by decide +kernel
theorem dX11_findSpan_85 : decode cX11_findSpan 85 = .ok (.bipush 6, 2) := by decide +kernel
theorem dX11_findSpan_87 : decode cX11_findSpan 87 = .ok (.invokevirtual 291, 3) := by decide +kernel
theorem dX11_findSpan_90 : decode cX11_findSpan 90 = .ok (.isub, 1) := by decide +kernel
theorem dX11_findSpan_91 : decode cX11_findSpan 91 = .ok (.iastore, 1) := by decide +kernel
theorem dX11_findSpan_92 : decode cX11_findSpan 92 = .ok (.iconst 0, 1) := by decide +kernel
theorem dX11_findSpan_93 : decode cX11_findSpan 93 = .ok (.istore_n 2, 1) := by decide +kernel
theorem dX11_findSpan_94 : decode cX11_findSpan 94 = .ok (.iconst 0, 1) := by decide +kernel
theorem dX11_findSpan_95 : decode cX11_findSpan 95 = .ok (.istore_n 3, 1) := by decide +kernel
theorem dX11_findSpan_96 : decode cX11_findSpan 96 = .ok (.iconst 1, 1) := by decide +kernel
theorem dX11_findSpan_97 : decode cX11_findSpan 97 = .ok (.istore 4, 2) := by decide +kernel
theorem dX11_findSpan_99 : decode cX11_findSpan 99 = .ok (.iconst 0, 1) := by decide +kernel
theorem dX11_findSpan_100 : decode cX11_findSpan 100 = .ok (.istore 5, 2) := by decide +kernel
theorem dX11_findSpan_102 : decode cX11_findSpan 102 = .ok (.iload 5, 2) := by decide +kernel
theorem dX11_findSpan_104 : decode cX11_findSpan 104 = .ok (.aload_n 0, 1) := by decide +kernel
theorem dX11_findSpan_105 : decode cX11_findSpan 105 = .ok (.getfield 53, 3) := by decide +kernel
theorem dX11_findSpan_108 : decode cX11_findSpan 108 = .ok (.iconst 0, 1) := by decide +kernel
theorem dX11_findSpan_109 : decode cX11_findSpan 109 = .ok (.iaload, 1) := by decide +kernel
theorem dX11_findSpan_110 : decode cX11_findSpan 110 = .ok (.if_icmp .ge 108, 3) := by decide +kernel
theorem dX11_findSpan_113 : decode cX11_findSpan 113 = .ok (.iload 4, 2) := by decide +kernel
theorem dX11_findSpan_115 : decode cX11_findSpan 115 = .ok (.ifCond .eq 103, 3) := by decide +kernel
theorem dX11_findSpan_118 : decode cX11_findSpan 118 = .ok (.aload_n 0, 1) := by decide +kernel
theorem dX11_findSpan_119 : decode cX11_findSpan 119 = .ok (.iload 5, 2) := by decide +kernel
theorem dX11_findSpan_121 : decode cX11_findSpan 121 = .ok (.invokevirtual 295, 3) := by decide +kernel
theorem dX11_findSpan_124 : decode cX11_findSpan 124 = .ok (.ifCond .eq 88, 3) := by decide +kernel
theorem dX11_findSpan_127 : decode cX11_findSpan 127 = .ok (.aload_n 0, 1) := by decide +kernel
theorem dX11_findSpan_128 : decode cX11_findSpan 128 = .ok (.getfield 68, 3) := by decide +kernel
theorem dX11_findSpan_131 : decode cX11_findSpan 131 = .ok (.iload 5, 2) := by decide +kernel
theorem dX11_findSpan_133 : decode cX11_findSpan 133 = .ok (.iaload, 1) := by decide +kernel
theorem dX11_findSpan_134 : decode cX11_findSpan 134 = .ok (.iconst 2, 1) := by decide +kernel
theorem dX11_findSpan_135 : decode cX11_findSpan 135 = .ok (.if_icmp .ge 7, 3) := by decide +kernel
theorem dX11_findSpan_138 : decode cX11_findSpan 138 = .ok (.iconst 1, 1) := by decide +kernel
theorem dX11_findSpan_139 : decode cX11_findSpan 139 = .ok (.goto 4, 3) := by decide +kernel
theorem dX11_findSpan_142 : decode cX11_findSpan 142 = .ok (.iconst 0, 1) := by decide +kernel
theorem dX11_findSpan_143 : decode cX11_findSpan 143 = .ok (.istore 4, 2) := by decide +kernel
theorem dX11_findSpan_145 : decode cX11_findSpan 145 = .ok (.iload 4, 2) := by decide +kernel
theorem dX11_findSpan_147 : decode cX11_findSpan 147 = .ok (.ifCond .eq 65, 3) := by decide +kernel
theorem dX11_findSpan_150 : decode cX11_findSpan 150 = .ok (.iload_n 2, 1) := by decide +kernel
theorem dX11_findSpan_151 : decode cX11_findSpan 151 = .ok (.aload_n 0, 1) := by decide +kernel
theorem dX11_findSpan_152 : decode cX11_findSpan 152 = .ok (.getfield 68, 3) := by decide +kernel
theorem dX11_findSpan_155 : decode cX11_findSpan 155 = .ok (.iload 5, 2) := by decide +kernel
theorem dX11_findSpan_157 : decode cX11_findSpan 157 = .ok (.iaload, 1) := by decide +kernel
theorem dX11_findSpan_158 : decode cX11_findSpan 158 = .ok (.ifCond .ne 13, 3) := by decide +kernel
theorem dX11_findSpan_161 : decode cX11_findSpan 161 = .ok (.aload_n 0, 1) := by decide +kernel
theorem dX11_findSpan_162 : decode cX11_findSpan 162 = .ok (.getfield 71, 3) := by decide +kernel
theorem dX11_findSpan_165 : decode cX11_findSpan 165 = .ok (.iload 5, 2) := by decide +kernel
theorem dX11_findSpan_167 : decode cX11_findSpan 167 = .ok (.iaload, 1) := by decide +kernel
theorem dX11_findSpan_168 : decode cX11_findSpan 168 = .ok (.goto 11, 3) := by decide +kernel
theorem dX11_findSpan_171 : decode cX11_findSpan 171 = .ok (.aload_n 0, 1) := by decide +kernel
theorem dX11_findSpan_172 : decode cX11_findSpan 172 = .ok (.getfield 74, 3) := by decide +kernel
theorem dX11_findSpan_175 : decode cX11_findSpan 175 = .ok (.iload 5, 2) := by decide +kernel
theorem dX11_findSpan_177 : decode cX11_findSpan 177 = .ok (.iaload, 1) := by decide +kernel
theorem dX11_findSpan_178 : decode cX11_findSpan 178 = .ok (.ineg, 1) := by decide +kernel
theorem dX11_findSpan_179 : decode cX11_findSpan 179 = .ok (.iadd, 1) := by decide +kernel
theorem dX11_findSpan_180 : decode cX11_findSpan 180 = .ok (.istore_n 2, 1) := by decide +kernel
theorem dX11_findSpan_181 : decode cX11_findSpan 181 = .ok (.iload_n 3, 1) := by decide +kernel
theorem dX11_findSpan_182 : decode cX11_findSpan 182 = .ok (.aload_n 0, 1) := by decide +kernel
theorem dX11_findSpan_183 : decode cX11_findSpan 183 = .ok (.getfield 68, 3) := by decide +kernel
theorem dX11_findSpan_186 : decode cX11_findSpan 186 = .ok (.iload 5, 2) := by decide +kernel
theorem dX11_findSpan_188 : decode cX11_findSpan 188 = .ok (.iaload, 1) := by decide +kernel
theorem dX11_findSpan_189 : decode cX11_findSpan 189 = .ok (.ifCond .ne 13, 3) := by decide +kernel
theorem dX11_findSpan_192 : decode cX11_findSpan 192 = .ok (.aload_n 0, 1) := by decide +kernel
theorem dX11_findSpan_193 : decode cX11_findSpan 193 = .ok (.getfield 74, 3) := by decide +kernel
theorem dX11_findSpan_196 : decode cX11_findSpan 196 = .ok (.iload 5, 2) := by decide +kernel
theorem dX11_findSpan_198 : decode cX11_findSpan 198 = .ok (.iaload, 1) := by decide +kernel
theorem dX11_findSpan_199 : decode cX11_findSpan 199 = .ok (.goto 11, 3) := by decide +kernel
theorem dX11_findSpan_202 : decode cX11_findSpan 202 = .ok (.aload_n 0, 1) := by decide +kernel
theorem dX11_findSpan_203 : decode cX11_findSpan 203 = .ok (.getfield 71, 3) := by decide +kernel
theorem dX11_findSpan_206 : decode cX11_findSpan 206 = .ok (.iload 5, 2) := by decide +kernel
theorem dX11_findSpan_208 : decode cX11_findSpan 208 = .ok (.iaload, 1) := by decide +kernel
theorem dX11_findSpan_209 : decode cX11_findSpan 209 = .ok (.ineg, 1) := by decide +kernel
theorem dX11_findSpan_210 : decode cX11_findSpan 210 = .ok (.iadd, 1) := by decide +kernel
theorem dX11_findSpan_211 : decode cX11_findSpan 211 = .ok (.istore_n 3, 1) := by decide +kernel
theorem dX11_findSpan_212 : decode cX11_findSpan 212 = .ok (.iinc 5 1, 3) := by decide +kernel
theorem dX11_findSpan_215 : decode cX11_findSpan 215 = .ok (.goto (-113), 3) := by decide +kernel
theorem dX11_findSpan_218 : decode cX11_findSpan 218 = .ok (.aload_n 0, 1) := by decide +kernel
theorem dX11_findSpan_219 : decode cX11_findSpan 219 = .ok (.iload_n 1, 1) := by decide +kernel
theorem dX11_findSpan_220 : decode cX11_findSpan 220 = .ok (.iconst 0, 1) := by decide +kernel
theorem dX11_findSpan_221 : decode cX11_findSpan 221 = .ok (.invokevirtual 291, 3) := by decide +kernel
theorem dX11_findSpan_224 : decode cX11_findSpan 224 = .ok (.aload_n 0, 1) := by decide +kernel
theorem dX11_findSpan_225 : decode cX11_findSpan 225 = .ok (.iload_n 1, 1) := by decide +kernel
theorem dX11_findSpan_226 : decode cX11_findSpan 226 = .ok (.iconst 3, 1) := by decide +kernel
theorem dX11_findSpan_227 : decode cX11_findSpan 227 = .ok (.invokevirtual 291, 3) := by decide +kernel
theorem dX11_findSpan_230 : decode cX11_findSpan 230 = .ok (.isub, 1) := by decide +kernel
theorem dX11_findSpan_231 : decode cX11_findSpan 231 = .ok (.istore 5, 2) := by decide +kernel
theorem dX11_findSpan_233 : decode cX11_findSpan 233 = .ok (.iload 5, 2) := by decide +kernel
theorem dX11_findSpan_235 : decode cX11_findSpan 235 = .ok (.iload 5, 2) := by decide +kernel
theorem dX11_findSpan_237 : decode cX11_findSpan 237 = .ok (.iload_n 2, 1) := by decide +kernel
theorem dX11_findSpan_238 : decode cX11_findSpan 238 = .ok (.invokestatic 298, 3) := by decide +kernel
theorem dX11_findSpan_241 : decode cX11_findSpan 241 = .ok (.imul, 1) := by decide +kernel
theorem dX11_findSpan_242 : decode cX11_findSpan 242 = .ok (.sipush 1000, 3) := by decide +kernel
theorem dX11_findSpan_245 : decode cX11_findSpan 245 = .ok (.idiv, 1) := by decide +kernel
theorem dX11_findSpan_246 : decode cX11_findSpan 246 = .ok (.iadd, 1) := by decide +kernel
theorem dX11_findSpan_247 : decode cX11_findSpan 247 = .ok (.istore 6, 2) := by decide +kernel
theorem dX11_findSpan_249 : decode cX11_findSpan 249 = .ok (.iload 5, 2) := by decide +kernel
theorem dX11_findSpan_251 : decode cX11_findSpan 251 = .ok (.iload 5, 2) := by decide +kernel
theorem dX11_findSpan_253 : decode cX11_findSpan 253 = .ok (.iload_n 3, 1) := by decide +kernel
theorem dX11_findSpan_254 : decode cX11_findSpan 254 = .ok (.invokestatic 298, 3) := by decide +kernel
theorem dX11_findSpan_257 : decode cX11_findSpan 257 = .ok (.imul, 1) := by decide +kernel
theorem dX11_findSpan_258 : decode cX11_findSpan 258 = .ok (.sipush 1000, 3) := by decide +kernel
theorem dX11_findSpan_261 : decode cX11_findSpan 261 = .ok (.idiv, 1) := by decide +kernel
theorem dX11_findSpan_262 : decode cX11_findSpan 262 = .ok (.iadd, 1) := by decide +kernel
theorem dX11_findSpan_263 : decode cX11_findSpan 263 = .ok (.istore 7, 2) := by decide +kernel
theorem dX11_findSpan_265 : decode cX11_findSpan 265 = .ok (.aload_n 0, 1) := by decide +kernel
theorem dX11_findSpan_266 : decode cX11_findSpan 266 = .ok (.getfield 108, 3) := by decide +kernel
theorem dX11_findSpan_269 : decode cX11_findSpan 269 = .ok (.iload_n 1, 1) := by decide +kernel
theorem dX11_findSpan_270 : decode cX11_findSpan 270 = .ok (.iload 6, 2) := by decide +kernel
theorem dX11_findSpan_272 : decode cX11_findSpan 272 = .ok (.iconst 1, 1) := by decide +kernel
theorem dX11_findSpan_273 : decode cX11_findSpan 273 = .ok (.if_icmp .ge 7, 3) := by decide +kernel
theorem dX11_findSpan_276 : decode cX11_findSpan 276 = .ok (.iconst 1, 1) := by decide +kernel
theorem dX11_findSpan_277 : decode cX11_findSpan 277 = .ok (.goto 5, 3) := by decide +kernel
theorem dX11_findSpan_280 : decode cX11_findSpan 280 = .ok (.iload 6, 2) := by decide +kernel
theorem dX11_findSpan_282 : decode cX11_findSpan 282 = .ok (.iastore, 1) := by decide +kernel
theorem dX11_findSpan_283 : decode cX11_findSpan 283 = .ok (.aload_n 0, 1) := by decide +kernel
theorem dX11_findSpan_284 : decode cX11_findSpan 284 = .ok (.getfield 111, 3) := by decide +kernel
theorem dX11_findSpan_287 : decode cX11_findSpan 287 = .ok (.iload_n 1, 1) := by decide +kernel
theorem dX11_findSpan_288 : decode cX11_findSpan 288 = .ok (.iload 7, 2) := by decide +kernel
theorem dX11_findSpan_290 : decode cX11_findSpan 290 = .ok (.iconst 1, 1) := by decide +kernel
theorem dX11_findSpan_291 : decode cX11_findSpan 291 = .ok (.if_icmp .ge 7, 3) := by decide +kernel
theorem dX11_findSpan_294 : decode cX11_findSpan 294 = .ok (.iconst 1, 1) := by decide +kernel
theorem dX11_findSpan_295 : decode cX11_findSpan 295 = .ok (.goto 5, 3) := by decide +kernel
theorem dX11_findSpan_298 : decode cX11_findSpan 298 = .ok (.iload 7, 2) := by decide +kernel
theorem dX11_findSpan_300 : decode cX11_findSpan 300 = .ok (.iastore, 1) := by decide +kernel
theorem dX11_findSpan_301 : decode cX11_findSpan 301 = .ok (.return_, 1) := by decide +kernel
theorem dX11_isChosen_0 : decode cX11_isChosen 0 = .ok (.aload_n 0, 1) := by decide +kernel
theorem dX11_isChosen_1 : decode cX11_isChosen 1 = .ok (.iload_n 1, 1) := by decide +kernel
theorem dX11_isChosen_2 : decode cX11_isChosen 2 = .ok (.iconst 5, 1) := by decide +kernel
theorem dX11_isChosen_3 : decode cX11_isChosen 3 = .ok (.invokevirtual 291, 3) := by decide +kernel
theorem dX11_isChosen_6 : decode cX11_isChosen 6 = .ok (.aload_n 0, 1) := by decide +kernel
theorem dX11_isChosen_7 : decode cX11_isChosen 7 = .ok (.getfield 47, 3) := by decide +kernel
theorem dX11_isChosen_10 : decode cX11_isChosen 10 = .ok (.iconst 1, 1) := by decide +kernel
theorem dX11_isChosen_11 : decode cX11_isChosen 11 = .ok (.iaload, 1) := by decide +kernel
theorem dX11_isChosen_12 : decode cX11_isChosen 12 = .ok (.if_icmp .gt 23, 3) := by decide +kernel
theorem dX11_isChosen_15 : decode cX11_isChosen 15 = .ok (.aload_n 0, 1) := by decide +kernel
theorem dX11_isChosen_16 : decode cX11_isChosen 16 = .ok (.iload_n 1, 1) := by decide +kernel
theorem dX11_isChosen_17 : decode cX11_isChosen 17 = .ok (.bipush 6, 2) := by decide +kernel
theorem dX11_isChosen_19 : decode cX11_isChosen 19 = .ok (.invokevirtual 291, 3) := by decide +kernel
theorem dX11_isChosen_22 : decode cX11_isChosen 22 = .ok (.aload_n 0, 1) := by decide +kernel
theorem dX11_isChosen_23 : decode cX11_isChosen 23 = .ok (.getfield 47, 3) := by decide +kernel
theorem dX11_isChosen_26 : decode cX11_isChosen 26 = .ok (.iconst 0, 1) := by decide +kernel
theorem dX11_isChosen_27 : decode cX11_isChosen 27 = .ok (.iaload, 1) := by decide +kernel
theorem dX11_isChosen_28 : decode cX11_isChosen 28 = .ok (.if_icmp .lt 7, 3) := by decide +kernel
theorem dX11_isChosen_31 : decode cX11_isChosen 31 = .ok (.iconst 1, 1) := by decide +kernel
theorem dX11_isChosen_32 : decode cX11_isChosen 32 = .ok (.goto 4, 3) := by decide +kernel
theorem dX11_isChosen_35 : decode cX11_isChosen 35 = .ok (.iconst 0, 1) := by decide +kernel
theorem dX11_isChosen_36 : decode cX11_isChosen 36 = .ok (.istore_n 2, 1) := by decide +kernel
theorem dX11_isChosen_37 : decode cX11_isChosen 37 = .ok (.aload_n 0, 1) := by decide +kernel
theorem dX11_isChosen_38 : decode cX11_isChosen 38 = .ok (.getfield 50, 3) := by decide +kernel
theorem dX11_isChosen_41 : decode cX11_isChosen 41 = .ok (.iconst 0, 1) := by decide +kernel
theorem dX11_isChosen_42 : decode cX11_isChosen 42 = .ok (.iaload, 1) := by decide +kernel
theorem dX11_isChosen_43 : decode cX11_isChosen 43 = .ok (.ifCond .eq 36, 3) := by decide +kernel
theorem dX11_isChosen_46 : decode cX11_isChosen 46 = .ok (.aload_n 0, 1) := by decide +kernel
theorem dX11_isChosen_47 : decode cX11_isChosen 47 = .ok (.getfield 50, 3) := by decide +kernel
theorem dX11_isChosen_50 : decode cX11_isChosen 50 = .ok (.iconst 0, 1) := by decide +kernel
theorem dX11_isChosen_51 : decode cX11_isChosen 51 = .ok (.iaload, 1) := by decide +kernel
theorem dX11_isChosen_52 : decode cX11_isChosen 52 = .ok (.iconst 1, 1) := by decide +kernel
theorem dX11_isChosen_53 : decode cX11_isChosen 53 = .ok (.if_icmp .ne 7, 3) := by decide +kernel
theorem dX11_isChosen_56 : decode cX11_isChosen 56 = .ok (.iconst 1, 1) := by decide +kernel
theorem dX11_isChosen_57 : decode cX11_isChosen 57 = .ok (.goto 4, 3) := by decide +kernel
theorem dX11_isChosen_60 : decode cX11_isChosen 60 = .ok (.iconst 0, 1) := by decide +kernel
theorem dX11_isChosen_61 : decode cX11_isChosen 61 = .ok (.aload_n 0, 1) := by decide +kernel
theorem dX11_isChosen_62 : decode cX11_isChosen 62 = .ok (.iload_n 1, 1) := by decide +kernel
theorem dX11_isChosen_63 : decode cX11_isChosen 63 = .ok (.bipush 7, 2) := by decide +kernel
theorem dX11_isChosen_65 : decode cX11_isChosen 65 = .ok (.invokevirtual 291, 3) := by decide +kernel
theorem dX11_isChosen_68 : decode cX11_isChosen 68 = .ok (.ifCond .le 7, 3) := by decide +kernel
theorem dX11_isChosen_71 : decode cX11_isChosen 71 = .ok (.iconst 1, 1) := by decide +kernel
theorem dX11_isChosen_72 : decode cX11_isChosen 72 = .ok (.goto 4, 3) := by decide +kernel
theorem dX11_isChosen_75 : decode cX11_isChosen 75 = .ok (.iconst 0, 1) := by decide +kernel
theorem dX11_isChosen_76 : decode cX11_isChosen 76 = .ok (.if_icmp .ne 7, 3) := by decide +kernel
theorem dX11_isChosen_79 : decode cX11_isChosen 79 = .ok (.iconst 1, 1) := by decide +kernel
theorem dX11_isChosen_80 : decode cX11_isChosen 80 = .ok (.goto 4, 3) := by decide +kernel
theorem dX11_isChosen_83 : decode cX11_isChosen 83 = .ok (.iconst 0, 1) := by decide +kernel
theorem dX11_isChosen_84 : decode cX11_isChosen 84 = .ok (.istore_n 3, 1) := by decide +kernel
theorem dX11_isChosen_85 : decode cX11_isChosen 85 = .ok (.aload_n 0, 1) := by decide +kernel
theorem dX11_isChosen_86 : decode cX11_isChosen 86 = .ok (.iload_n 1, 1) := by decide +kernel
theorem dX11_isChosen_87 : decode cX11_isChosen 87 = .ok (.bipush 9, 2) := by decide +kernel
theorem dX11_isChosen_89 : decode cX11_isChosen 89 = .ok (.invokevirtual 291, 3) := by decide +kernel
theorem dX11_isChosen_92 : decode cX11_isChosen 92 = .ok (.iconst 1, 1) := by decide +kernel
theorem dX11_isChosen_93 : decode cX11_isChosen 93 = .ok (.if_icmp .ne 51, 3) := by decide +kernel
theorem dX11_isChosen_96 : decode cX11_isChosen 96 = .ok (.aload_n 0, 1) := by decide +kernel
theorem dX11_isChosen_97 : decode cX11_isChosen 97 = .ok (.getfield 41, 3) := by decide +kernel
theorem dX11_isChosen_100 : decode cX11_isChosen 100 = .ok (.iconst 0, 1) := by decide +kernel
theorem dX11_isChosen_101 : decode cX11_isChosen 101 = .ok (.iaload, 1) := by decide +kernel
theorem dX11_isChosen_102 : decode cX11_isChosen 102 = .ok (.aload_n 0, 1) := by decide +kernel
theorem dX11_isChosen_103 : decode cX11_isChosen 103 = .ok (.iload_n 1, 1) := by decide +kernel
theorem dX11_isChosen_104 : decode cX11_isChosen 104 = .ok (.iconst 4, 1) := by decide +kernel
theorem dX11_isChosen_105 : decode cX11_isChosen 105 = .ok (.invokevirtual 291, 3) := by decide +kernel
theorem dX11_isChosen_108 : decode cX11_isChosen 108 = .ok (.ishr, 1) := by decide +kernel
theorem dX11_isChosen_109 : decode cX11_isChosen 109 = .ok (.iconst 1, 1) := by decide +kernel
theorem dX11_isChosen_110 : decode cX11_isChosen 110 = .ok (.iand, 1) := by decide +kernel
theorem dX11_isChosen_111 : decode cX11_isChosen 111 = .ok (.ifCond .eq 33, 3) := by decide +kernel
theorem dX11_isChosen_114 : decode cX11_isChosen 114 = .ok (.aload_n 0, 1) := by decide +kernel
theorem dX11_isChosen_115 : decode cX11_isChosen 115 = .ok (.getfield 44, 3) := by decide +kernel
theorem dX11_isChosen_118 : decode cX11_isChosen 118 = .ok (.iconst 0, 1) := by decide +kernel
theorem dX11_isChosen_119 : decode cX11_isChosen 119 = .ok (.iaload, 1) := by decide +kernel
theorem dX11_isChosen_120 : decode cX11_isChosen 120 = .ok (.aload_n 0, 1) := by decide +kernel
theorem dX11_isChosen_121 : decode cX11_isChosen 121 = .ok (.iload_n 1, 1) := by decide +kernel
theorem dX11_isChosen_122 : decode cX11_isChosen 122 = .ok (.iconst 1, 1) := by decide +kernel
theorem dX11_isChosen_123 : decode cX11_isChosen 123 = .ok (.invokevirtual 291, 3) := by decide +kernel
theorem dX11_isChosen_126 : decode cX11_isChosen 126 = .ok (.ishr, 1) := by decide +kernel
theorem dX11_isChosen_127 : decode cX11_isChosen 127 = .ok (.iconst 1, 1) := by decide +kernel
theorem dX11_isChosen_128 : decode cX11_isChosen 128 = .ok (.iand, 1) := by decide +kernel
theorem dX11_isChosen_129 : decode cX11_isChosen 129 = .ok (.ifCond .eq 15, 3) := by decide +kernel
theorem dX11_isChosen_132 : decode cX11_isChosen 132 = .ok (.iload_n 2, 1) := by decide +kernel
theorem dX11_isChosen_133 : decode cX11_isChosen 133 = .ok (.ifCond .eq 11, 3) := by decide +kernel
theorem dX11_isChosen_136 : decode cX11_isChosen 136 = .ok (.iload_n 3, 1) := by decide +kernel
theorem dX11_isChosen_137 : decode cX11_isChosen 137 = .ok (.ifCond .eq 7, 3) := by decide +kernel
theorem dX11_isChosen_140 : decode cX11_isChosen 140 = .ok (.iconst 1, 1) := by decide +kernel
theorem dX11_isChosen_141 : decode cX11_isChosen 141 = .ok (.goto 4, 3) := by decide +kernel
theorem dX11_isChosen_144 : decode cX11_isChosen 144 = .ok (.iconst 0, 1) := by decide +kernel
theorem dX11_isChosen_145 : decode cX11_isChosen 145 = .ok (.ireturn, 1) := by decide +kernel
theorem dX11_look_0 : decode cX11_look 0 = .ok (.aload_n 0, 1) := by decide +kernel
theorem dX11_look_1 : decode cX11_look 1 = .ok (.invokevirtual 142, 3) := by decide +kernel
theorem dX11_look_4 : decode cX11_look 4 = .ok (.istore_n 1, 1) := by decide +kernel
theorem dX11_look_5 : decode cX11_look 5 = .ok (.aload_n 0, 1) := by decide +kernel
theorem dX11_look_6 : decode cX11_look 6 = .ok (.aload_n 0, 1) := by decide +kernel
theorem dX11_look_7 : decode cX11_look 7 = .ok (.getfield 23, 3) := by decide +kernel
theorem dX11_look_10 : decode cX11_look 10 = .ok (.iconst 0, 1) := by decide +kernel
theorem dX11_look_11 : decode cX11_look 11 = .ok (.iaload, 1) := by decide +kernel
theorem dX11_look_12 : decode cX11_look 12 = .ok (.putfield 302, 3) := by decide +kernel
theorem dX11_look_15 : decode cX11_look 15 = .ok (.iconst 0, 1) := by decide +kernel
theorem dX11_look_16 : decode cX11_look 16 = .ok (.istore_n 2, 1) := by decide +kernel
theorem dX11_look_17 : decode cX11_look 17 = .ok (.iload_n 2, 1) := by decide +kernel
theorem dX11_look_18 : decode cX11_look 18 = .ok (.aload_n 0, 1) := by decide +kernel
theorem dX11_look_19 : decode cX11_look 19 = .ok (.getfield 302, 3) := by decide +kernel
theorem dX11_look_22 : decode cX11_look 22 = .ok (.if_icmp .ge 179, 3) := by decide +kernel
theorem dX11_look_25 : decode cX11_look 25 = .ok (.aload_n 0, 1) := by decide +kernel
theorem dX11_look_26 : decode cX11_look 26 = .ok (.getfield 101, 3) := by decide +kernel
theorem dX11_look_29 : decode cX11_look 29 = .ok (.iload_n 2, 1) := by decide +kernel
theorem dX11_look_30 : decode cX11_look 30 = .ok (.aload_n 0, 1) := by decide +kernel
theorem dX11_look_31 : decode cX11_look 31 = .ok (.getfield 38, 3) := by decide +kernel
theorem dX11_look_34 : decode cX11_look 34 = .ok (.iconst 3, 1) := by decide +kernel
theorem dX11_look_35 : decode cX11_look 35 = .ok (.iload_n 2, 1) := by decide +kernel
theorem dX11_look_36 : decode cX11_look 36 = .ok (.imul, 1) := by decide +kernel
theorem dX11_look_37 : decode cX11_look 37 = .ok (.iaload, 1) := by decide +kernel
theorem dX11_look_38 : decode cX11_look 38 = .ok (.iload_n 1, 1) := by decide +kernel
theorem dX11_look_39 : decode cX11_look 39 = .ok (.if_icmp .gt 7, 3) := by decide +kernel
theorem dX11_look_42 : decode cX11_look 42 = .ok (.iconst 1, 1) := by decide +kernel
theorem dX11_look_43 : decode cX11_look 43 = .ok (.goto 4, 3) := by decide +kernel
theorem dX11_look_46 : decode cX11_look 46 = .ok (.iconst 0, 1) := by decide +kernel
theorem dX11_look_47 : decode cX11_look 47 = .ok (.bastore, 1) := by decide +kernel
theorem dX11_look_48 : decode cX11_look 48 = .ok (.aload_n 0, 1) := by decide +kernel
theorem dX11_look_49 : decode cX11_look 49 = .ok (.getfield 105, 3) := by decide +kernel
theorem dX11_look_52 : decode cX11_look 52 = .ok (.bipush 11, 2) := by decide +kernel
theorem dX11_look_54 : decode cX11_look 54 = .ok (.iload_n 2, 1) := by decide +kernel
theorem dX11_look_55 : decode cX11_look 55 = .ok (.imul, 1) := by decide +kernel
theorem dX11_look_56 : decode cX11_look 56 = .ok (.iconst 1, 1) := by decide +kernel
theorem dX11_look_57 : decode cX11_look 57 = .ok (.iadd, 1) := by decide +kernel
theorem dX11_look_58 : decode cX11_look 58 = .ok (.aload_n 0, 1) := by decide +kernel
theorem dX11_look_59 : decode cX11_look 59 = .ok (.getfield 38, 3) := by decide +kernel
theorem dX11_look_62 : decode cX11_look 62 = .ok (.iconst 3, 1) := by decide +kernel
theorem dX11_look_63 : decode cX11_look 63 = .ok (.iload_n 2, 1) := by decide +kernel
theorem dX11_look_64 : decode cX11_look 64 = .ok (.imul, 1) := by decide +kernel
theorem dX11_look_65 : decode cX11_look 65 = .ok (.iconst 1, 1) := by decide +kernel
theorem dX11_look_66 : decode cX11_look 66 = .ok (.iadd, 1) := by decide +kernel
theorem dX11_look_67 : decode cX11_look 67 = .ok (.iaload, 1) := by decide +kernel
theorem dX11_look_68 : decode cX11_look 68 = .ok (.iastore, 1) := by decide +kernel
theorem dX11_look_69 : decode cX11_look 69 = .ok (.aload_n 0, 1) := by decide +kernel
theorem dX11_look_70 : decode cX11_look 70 = .ok (.getfield 105, 3) := by decide +kernel
theorem dX11_look_73 : decode cX11_look 73 = .ok (.bipush 11, 2) := by decide +kernel
theorem dX11_look_75 : decode cX11_look 75 = .ok (.iload_n 2, 1) := by decide +kernel
theorem dX11_look_76 : decode cX11_look 76 = .ok (.imul, 1) := by decide +kernel
theorem dX11_look_77 : decode cX11_look 77 = .ok (.iconst 4, 1) := by decide +kernel
theorem dX11_look_78 : decode cX11_look 78 = .ok (.iadd, 1) := by decide +kernel
theorem dX11_look_79 : decode cX11_look 79 = .ok (.aload_n 0, 1) := by decide +kernel
theorem dX11_look_80 : decode cX11_look 80 = .ok (.getfield 38, 3) := by decide +kernel
theorem dX11_look_83 : decode cX11_look 83 = .ok (.iconst 3, 1) := by decide +kernel
theorem dX11_look_84 : decode cX11_look 84 = .ok (.iload_n 2, 1) := by decide +kernel
theorem dX11_look_85 : decode cX11_look 85 = .ok (.imul, 1) := by decide +kernel
theorem dX11_look_86 : decode cX11_look 86 = .ok (.iconst 2, 1) := by decide +kernel
theorem dX11_look_87 : decode cX11_look 87 = .ok (.iadd, 1) := by decide +kernel
theorem dX11_look_88 : decode cX11_look 88 = .ok (.iaload, 1) := by decide +kernel
theorem dX11_look_89 : decode cX11_look 89 = .ok (.iastore, 1) := by decide +kernel
theorem dX11_look_90 : decode cX11_look 90 = .ok (.aload_n 0, 1) := by decide +kernel
theorem dX11_look_91 : decode cX11_look 91 = .ok (.getfield 105, 3) := by decide +kernel
theorem dX11_look_94 : decode cX11_look 94 = .ok (.bipush 11, 2) := by decide +kernel
theorem dX11_look_96 : decode cX11_look 96 = .ok (.iload_n 2, 1) := by decide +kernel
theorem dX11_look_97 : decode cX11_look 97 = .ok (.imul, 1) := by decide +kernel
theorem dX11_look_98 : decode cX11_look 98 = .ok (.iconst 2, 1) := by decide +kernel
theorem dX11_look_99 : decode cX11_look 99 = .ok (.iadd, 1) := by decide +kernel
theorem dX11_look_100 : decode cX11_look 100 = .ok (.iconst 0, 1) := by decide +kernel
theorem dX11_look_101 : decode cX11_look 101 = .ok (.iastore, 1) := by decide +kernel
theorem dX11_look_102 : decode cX11_look 102 = .ok (.aload_n 0, 1) := by decide +kernel
theorem dX11_look_103 : decode cX11_look 103 = .ok (.getfield 105, 3) := by decide +kernel
theorem dX11_look_106 : decode cX11_look 106 = .ok (.bipush 11, 2) := by decide +kernel
theorem dX11_look_108 : decode cX11_look 108 = .ok (.iload_n 2, 1) := by decide +kernel
theorem dX11_look_109 : decode cX11_look 109 = .ok (.imul, 1) := by decide +kernel
theorem dX11_look_110 : decode cX11_look 110 = .ok (.iconst 3, 1) := by decide +kernel
theorem dX11_look_111 : decode cX11_look 111 = .ok (.iadd, 1) := by decide +kernel
theorem dX11_look_112 : decode cX11_look 112 = .ok (.iconst 0, 1) := by decide +kernel
theorem dX11_look_113 : decode cX11_look 113 = .ok (.iastore, 1) := by decide +kernel
theorem dX11_look_114 : decode cX11_look 114 = .ok (.aload_n 0, 1) := by decide +kernel
theorem dX11_look_115 : decode cX11_look 115 = .ok (.getfield 105, 3) := by decide +kernel
theorem dX11_look_118 : decode cX11_look 118 = .ok (.bipush 11, 2) := by decide +kernel
theorem dX11_look_120 : decode cX11_look 120 = .ok (.iload_n 2, 1) := by decide +kernel
theorem dX11_look_121 : decode cX11_look 121 = .ok (.imul, 1) := by decide +kernel
theorem dX11_look_122 : decode cX11_look 122 = .ok (.iconst 5, 1) := by decide +kernel
theorem dX11_look_123 : decode cX11_look 123 = .ok (.iadd, 1) := by decide +kernel
theorem dX11_look_124 : decode cX11_look 124 = .ok (.sipush (-3000), 3) := by decide +kernel
theorem dX11_look_127 : decode cX11_look 127 = .ok (.iastore, 1) := by decide +kernel
theorem dX11_look_128 : decode cX11_look 128 = .ok (.aload_n 0, 1) := by decide +kernel
theorem dX11_look_129 : decode cX11_look 129 = .ok (.getfield 105, 3) := by decide +kernel
theorem dX11_look_132 : decode cX11_look 132 = .ok (.bipush 11, 2) := by decide +kernel
theorem dX11_look_134 : decode cX11_look 134 = .ok (.iload_n 2, 1) := by decide +kernel
theorem dX11_look_135 : decode cX11_look 135 = .ok (.imul, 1) := by decide +kernel
theorem dX11_look_136 : decode cX11_look 136 = .ok (.bipush 6, 2) := by decide +kernel
theorem dX11_look_138 : decode cX11_look 138 = .ok (.iadd, 1) := by decide +kernel
theorem dX11_look_139 : decode cX11_look 139 = .ok (.sipush 1900, 3) := by decide +kernel
theorem dX11_look_142 : decode cX11_look 142 = .ok (.iastore, 1) := by decide +kernel
theorem dX11_look_143 : decode cX11_look 143 = .ok (.aload_n 0, 1) := by decide +kernel
theorem dX11_look_144 : decode cX11_look 144 = .ok (.getfield 105, 3) := by decide +kernel
theorem dX11_look_147 : decode cX11_look 147 = .ok (.bipush 11, 2) := by decide +kernel
theorem dX11_look_149 : decode cX11_look 149 = .ok (.iload_n 2, 1) := by decide +kernel
theorem dX11_look_150 : decode cX11_look 150 = .ok (.imul, 1) := by decide +kernel
theorem dX11_look_151 : decode cX11_look 151 = .ok (.bipush 7, 2) := by decide +kernel
theorem dX11_look_153 : decode cX11_look 153 = .ok (.iadd, 1) := by decide +kernel
theorem dX11_look_154 : decode cX11_look 154 = .ok (.iconst 0, 1) := by decide +kernel
theorem dX11_look_155 : decode cX11_look 155 = .ok (.iastore, 1) := by decide +kernel
theorem dX11_look_156 : decode cX11_look 156 = .ok (.aload_n 0, 1) := by decide +kernel
theorem dX11_look_157 : decode cX11_look 157 = .ok (.getfield 105, 3) := by decide +kernel
theorem dX11_look_160 : decode cX11_look 160 = .ok (.bipush 11, 2) := by decide +kernel
theorem dX11_look_162 : decode cX11_look 162 = .ok (.iload_n 2, 1) := by decide +kernel
theorem dX11_look_163 : decode cX11_look 163 = .ok (.imul, 1) := by decide +kernel
theorem dX11_look_164 : decode cX11_look 164 = .ok (.bipush 8, 2) := by decide +kernel
theorem dX11_look_166 : decode cX11_look 166 = .ok (.iadd, 1) := by decide +kernel
theorem dX11_look_167 : decode cX11_look 167 = .ok (.iconst 0, 1) := by decide +kernel
theorem dX11_look_168 : decode cX11_look 168 = .ok (.iastore, 1) := by decide +kernel
theorem dX11_look_169 : decode cX11_look 169 = .ok (.aload_n 0, 1) := by decide +kernel
theorem dX11_look_170 : decode cX11_look 170 = .ok (.getfield 105, 3) := by decide +kernel
theorem dX11_look_173 : decode cX11_look 173 = .ok (.bipush 11, 2) := by decide +kernel
theorem dX11_look_175 : decode cX11_look 175 = .ok (.iload_n 2, 1) := by decide +kernel
theorem dX11_look_176 : decode cX11_look 176 = .ok (.imul, 1) := by decide +kernel
theorem dX11_look_177 : decode cX11_look 177 = .ok (.bipush 9, 2) := by decide +kernel
theorem dX11_look_179 : decode cX11_look 179 = .ok (.iadd, 1) := by decide +kernel
theorem dX11_look_180 : decode cX11_look 180 = .ok (.iconst 1, 1) := by decide +kernel
theorem dX11_look_181 : decode cX11_look 181 = .ok (.iastore, 1) := by decide +kernel
theorem dX11_look_182 : decode cX11_look 182 = .ok (.aload_n 0, 1) := by decide +kernel
theorem dX11_look_183 : decode cX11_look 183 = .ok (.getfield 105, 3) := by decide +kernel
theorem dX11_look_186 : decode cX11_look 186 = .ok (.bipush 11, 2) := by decide +kernel
theorem dX11_look_188 : decode cX11_look 188 = .ok (.iload_n 2, 1) := by decide +kernel
theorem dX11_look_189 : decode cX11_look 189 = .ok (.imul, 1) := by decide +kernel
theorem dX11_look_190 : decode cX11_look 190 = .ok (.bipush 10, 2) := by decide +kernel
theorem dX11_look_192 : decode cX11_look 192 = .ok (.iadd, 1) := by decide +kernel
theorem dX11_look_193 : decode cX11_look 193 = .ok (.iconst 0, 1) := by decide +kernel
theorem dX11_look_194 : decode cX11_look 194 = .ok (.iastore, 1) := by decide +kernel
theorem dX11_look_195 : decode cX11_look 195 = .ok (.iinc 2 1, 3) := by decide +kernel
theorem dX11_look_198 : decode cX11_look 198 = .ok (.goto (-181), 3) := by decide +kernel
theorem dX11_look_201 : decode cX11_look 201 = .ok (.iconst 0, 1) := by decide +kernel
theorem dX11_look_202 : decode cX11_look 202 = .ok (.istore_n 2, 1) := by decide +kernel
theorem dX11_look_203 : decode cX11_look 203 = .ok (.iload_n 2, 1) := by decide +kernel
theorem dX11_look_204 : decode cX11_look 204 = .ok (.aload_n 0, 1) := by decide +kernel
theorem dX11_look_205 : decode cX11_look 205 = .ok (.getfield 32, 3) := by decide +kernel
theorem dX11_look_208 : decode cX11_look 208 = .ok (.iconst 0, 1) := by decide +kernel
theorem dX11_look_209 : decode cX11_look 209 = .ok (.iaload, 1) := by decide +kernel
theorem dX11_look_210 : decode cX11_look 210 = .ok (.if_icmp .ge 76, 3) := by decide +kernel
theorem dX11_look_213 : decode cX11_look 213 = .ok (.iconst 4, 1) := by decide +kernel
theorem dX11_look_214 : decode cX11_look 214 = .ok (.iload_n 2, 1) := by decide +kernel
theorem dX11_look_215 : decode cX11_look 215 = .ok (.imul, 1) := by decide +kernel
theorem dX11_look_216 : decode cX11_look 216 = .ok (.istore_n 3, 1) := by decide +kernel
theorem dX11_look_217 : decode cX11_look 217 = .ok (.aload_n 0, 1) := by decide +kernel
theorem dX11_look_218 : decode cX11_look 218 = .ok (.getfield 35, 3) := by decide +kernel
theorem dX11_look_221 : decode cX11_look 221 = .ok (.iload_n 3, 1) := by decide +kernel
theorem dX11_look_222 : decode cX11_look 222 = .ok (.iaload, 1) := by decide +kernel
theorem dX11_look_223 : decode cX11_look 223 = .ok (.iload_n 1, 1) := by decide +kernel
theorem dX11_look_224 : decode cX11_look 224 = .ok (.if_icmp .gt 56, 3) := by decide +kernel
theorem dX11_look_227 : decode cX11_look 227 = .ok (.aload_n 0, 1) := by decide +kernel
theorem dX11_look_228 : decode cX11_look 228 = .ok (.getfield 35, 3) := by decide +kernel
theorem dX11_look_231 : decode cX11_look 231 = .ok (.iload_n 3, 1) := by decide +kernel
theorem dX11_look_232 : decode cX11_look 232 = .ok (.iconst 2, 1) := by decide +kernel
theorem dX11_look_233 : decode cX11_look 233 = .ok (.iadd, 1) := by decide +kernel
theorem dX11_look_234 : decode cX11_look 234 = .ok (.iaload, 1) := by decide +kernel
theorem dX11_look_235 : decode cX11_look 235 = .ok (.iconst (-1), 1) := by decide +kernel
theorem dX11_look_236 : decode cX11_look 236 = .ok (.if_icmp .ne 7, 3) := by decide +kernel
theorem dX11_look_239 : decode cX11_look 239 = .ok (.iconst 0, 1) := by decide +kernel
theorem dX11_look_240 : decode cX11_look 240 = .ok (.goto 11, 3) := by decide +kernel
theorem dX11_look_243 : decode cX11_look 243 = .ok (.aload_n 0, 1) := by decide +kernel
theorem dX11_look_244 : decode cX11_look 244 = .ok (.getfield 35, 3) := by decide +kernel
theorem dX11_look_247 : decode cX11_look 247 = .ok (.iload_n 3, 1) := by decide +kernel
theorem dX11_look_248 : decode cX11_look 248 = .ok (.iconst 2, 1) := by decide +kernel
theorem dX11_look_249 : decode cX11_look 249 = .ok (.iadd, 1) := by decide +kernel
theorem dX11_look_250 : decode cX11_look 250 = .ok (.iaload, 1) := by decide +kernel
theorem dX11_look_251 : decode cX11_look 251 = .ok (.istore 4, 2) := by decide +kernel
theorem dX11_look_253 : decode cX11_look 253 = .ok (.aload_n 0, 1) := by decide +kernel
theorem dX11_look_254 : decode cX11_look 254 = .ok (.getfield 105, 3) := by decide +kernel
theorem dX11_look_257 : decode cX11_look 257 = .ok (.bipush 11, 2) := by decide +kernel
theorem dX11_look_259 : decode cX11_look 259 = .ok (.aload_n 0, 1) := by decide +kernel
theorem dX11_look_260 : decode cX11_look 260 = .ok (.getfield 35, 3) := by decide +kernel
theorem dX11_look_263 : decode cX11_look 263 = .ok (.iload_n 3, 1) := by decide +kernel
theorem dX11_look_264 : decode cX11_look 264 = .ok (.iconst 1, 1) := by decide +kernel
theorem dX11_look_265 : decode cX11_look 265 = .ok (.iadd, 1) := by decide +kernel
theorem dX11_look_266 : decode cX11_look 266 = .ok (.iaload, 1) := by decide +kernel
theorem dX11_look_267 : decode cX11_look 267 = .ok (.imul, 1) := by decide +kernel
theorem dX11_look_268 : decode cX11_look 268 = .ok (.iload 4, 2) := by decide +kernel
theorem dX11_look_270 : decode cX11_look 270 = .ok (.iadd, 1) := by decide +kernel
theorem dX11_look_271 : decode cX11_look 271 = .ok (.aload_n 0, 1) := by decide +kernel
theorem dX11_look_272 : decode cX11_look 272 = .ok (.getfield 35, 3) := by decide +kernel
theorem dX11_look_275 : decode cX11_look 275 = .ok (.iload_n 3, 1) := by decide +kernel
theorem dX11_look_276 : decode cX11_look 276 = .ok (.iconst 3, 1) := by decide +kernel
theorem dX11_look_277 : decode cX11_look 277 = .ok (.iadd, 1) := by decide +kernel
theorem dX11_look_278 : decode cX11_look 278 = .ok (.iaload, 1) := by decide +kernel
theorem dX11_look_279 : decode cX11_look 279 = .ok (.iastore, 1) := by decide +kernel
theorem dX11_look_280 : decode cX11_look 280 = .ok (.iinc 2 1, 3) := by decide +kernel
theorem dX11_look_283 : decode cX11_look 283 = .ok (.goto (-80), 3) := by decide +kernel
theorem dX11_look_286 : decode cX11_look 286 = .ok (.iconst 0, 1) := by decide +kernel
theorem dX11_look_287 : decode cX11_look 287 = .ok (.istore_n 2, 1) := by decide +kernel
theorem dX11_look_288 : decode cX11_look 288 = .ok (.iload_n 2, 1) := by decide +kernel
theorem dX11_look_289 : decode cX11_look 289 = .ok (.aload_n 0, 1) := by decide +kernel
theorem dX11_look_290 : decode cX11_look 290 = .ok (.getfield 302, 3) := by decide +kernel
theorem dX11_look_293 : decode cX11_look 293 = .ok (.if_icmp .ge 41, 3) := by decide +kernel
theorem dX11_look_296 : decode cX11_look 296 = .ok (.aload_n 0, 1) := by decide +kernel
theorem dX11_look_297 : decode cX11_look 297 = .ok (.getfield 114, 3) := by decide +kernel
theorem dX11_look_300 : decode cX11_look 300 = .ok (.iload_n 2, 1) := by decide +kernel
theorem dX11_look_301 : decode cX11_look 301 = .ok (.iconst 0, 1) := by decide +kernel
theorem dX11_look_302 : decode cX11_look 302 = .ok (.bastore, 1) := by decide +kernel
theorem dX11_look_303 : decode cX11_look 303 = .ok (.aload_n 0, 1) := by decide +kernel
theorem dX11_look_304 : decode cX11_look 304 = .ok (.getfield 101, 3) := by decide +kernel
theorem dX11_look_307 : decode cX11_look 307 = .ok (.iload_n 2, 1) := by decide +kernel
theorem dX11_look_308 : decode cX11_look 308 = .ok (.baload, 1) := by decide +kernel
theorem dX11_look_309 : decode cX11_look 309 = .ok (.ifCond .eq 19, 3) := by decide +kernel
theorem dX11_look_312 : decode cX11_look 312 = .ok (.aload_n 0, 1) := by decide +kernel
theorem dX11_look_313 : decode cX11_look 313 = .ok (.iload_n 2, 1) := by decide +kernel
theorem dX11_look_314 : decode cX11_look 314 = .ok (.invokevirtual 305, 3) := by decide +kernel
end
section
theorem dX11_look_317 : decode cX11_look 317 = .ok (.aload_n 0, 1) := by decide +kernel
theorem dX11_look_318 : decode cX11_look 318 = .ok (.getfield 114, 3) := by decide +kernel
theorem dX11_look_321 : decode cX11_look 321 = .ok (.iload_n 2, 1) := by decide +kernel
theorem dX11_look_322 : decode cX11_look 322 = .ok (.aload_n 0, 1) := by decide +kernel
theorem dX11_look_323 : decode cX11_look 323 = .ok (.iload_n 2, 1) := by decide +kernel
theorem dX11_look_324 : decode cX11_look 324 = .ok (.invokevirtual 308, 3) := by decide +kernel
theorem dX11_look_327 : decode cX11_look 327 = .ok (.bastore, 1) := by decide +kernel
theorem dX11_look_328 : decode cX11_look 328 = .ok (.iinc 2 1, 3) := by decide +kernel
theorem dX11_look_331 : decode cX11_look 331 = .ok (.goto (-43), 3) := by decide +kernel
theorem dX11_look_334 : decode cX11_look 334 = .ok (.return_, 1) := by decide +kernel
theorem dX11_those_0 : decode cX11_those 0 = .ok (.iconst 0, 1) := by decide +kernel
theorem dX11_those_1 : decode cX11_those 1 = .ok (.istore_n 1, 1) := by decide +kernel
theorem dX11_those_2 : decode cX11_those 2 = .ok (.iconst 0, 1) := by decide +kernel
theorem dX11_those_3 : decode cX11_those 3 = .ok (.istore_n 2, 1) := by decide +kernel
theorem dX11_those_4 : decode cX11_those 4 = .ok (.iload_n 2, 1) := by decide +kernel
theorem dX11_those_5 : decode cX11_those 5 = .ok (.aload_n 0, 1) := by decide +kernel
theorem dX11_those_6 : decode cX11_those 6 = .ok (.getfield 302, 3) := by decide +kernel
theorem dX11_those_9 : decode cX11_those 9 = .ok (.if_icmp .ge 26, 3) := by decide +kernel
theorem dX11_those_12 : decode cX11_those 12 = .ok (.iload_n 1, 1) := by decide +kernel
theorem dX11_those_13 : decode cX11_those 13 = .ok (.aload_n 0, 1) := by decide +kernel
theorem dX11_those_14 : decode cX11_those 14 = .ok (.getfield 114, 3) := by decide +kernel
theorem dX11_those_17 : decode cX11_those 17 = .ok (.iload_n 2, 1) := by decide +kernel
theorem dX11_those_18 : decode cX11_those 18 = .ok (.baload, 1) := by decide +kernel
theorem dX11_those_19 : decode cX11_those 19 = .ok (.ifCond .eq 7, 3) := by decide +kernel
theorem dX11_those_22 : decode cX11_those 22 = .ok (.iconst 1, 1) := by decide +kernel
theorem dX11_those_23 : decode cX11_those 23 = .ok (.goto 4, 3) := by decide +kernel
theorem dX11_those_26 : decode cX11_those 26 = .ok (.iconst 0, 1) := by decide +kernel
theorem dX11_those_27 : decode cX11_those 27 = .ok (.iadd, 1) := by decide +kernel
theorem dX11_those_28 : decode cX11_those 28 = .ok (.istore_n 1, 1) := by decide +kernel
theorem dX11_those_29 : decode cX11_those 29 = .ok (.iinc 2 1, 3) := by decide +kernel
theorem dX11_those_32 : decode cX11_those 32 = .ok (.goto (-28), 3) := by decide +kernel
theorem dX11_those_35 : decode cX11_those 35 = .ok (.iload_n 1, 1) := by decide +kernel
theorem dX11_those_36 : decode cX11_those 36 = .ok (.ireturn, 1) := by decide +kernel
theorem dX11_choose_0 : decode cX11_choose 0 = .ok (.aload_n 0, 1) := by decide +kernel
theorem dX11_choose_1 : decode cX11_choose 1 = .ok (.iconst 0, 1) := by decide +kernel
theorem dX11_choose_2 : decode cX11_choose 2 = .ok (.putfield 130, 3) := by decide +kernel
theorem dX11_choose_5 : decode cX11_choose 5 = .ok (.iload_n 3, 1) := by decide +kernel
theorem dX11_choose_6 : decode cX11_choose 6 = .ok (.sipush (-3000), 3) := by decide +kernel
theorem dX11_choose_9 : decode cX11_choose 9 = .ok (.sipush 1900, 3) := by decide +kernel
theorem dX11_choose_12 : decode cX11_choose 12 = .ok (.invokestatic 138, 3) := by decide +kernel
theorem dX11_choose_15 : decode cX11_choose 15 = .ok (.ifCond .eq 25, 3) := by decide +kernel
theorem dX11_choose_18 : decode cX11_choose 18 = .ok (.iload 4, 2) := by decide +kernel
theorem dX11_choose_20 : decode cX11_choose 20 = .ok (.iload_n 3, 1) := by decide +kernel
theorem dX11_choose_21 : decode cX11_choose 21 = .ok (.sipush 1900, 3) := by decide +kernel
theorem dX11_choose_24 : decode cX11_choose 24 = .ok (.invokestatic 138, 3) := by decide +kernel
theorem dX11_choose_27 : decode cX11_choose 27 = .ok (.ifCond .eq 13, 3) := by decide +kernel
theorem dX11_choose_30 : decode cX11_choose 30 = .ok (.iload 5, 2) := by decide +kernel
theorem dX11_choose_32 : decode cX11_choose 32 = .ok (.iconst 0, 1) := by decide +kernel
theorem dX11_choose_33 : decode cX11_choose 33 = .ok (.iconst 2, 1) := by decide +kernel
theorem dX11_choose_34 : decode cX11_choose 34 = .ok (.invokestatic 138, 3) := by decide +kernel
theorem dX11_choose_37 : decode cX11_choose 37 = .ok (.ifCond .ne 5, 3) := by decide +kernel
theorem dX11_choose_40 : decode cX11_choose 40 = .ok (.iconst 0, 1) := by decide +kernel
theorem dX11_choose_41 : decode cX11_choose 41 = .ok (.ireturn, 1) := by decide +kernel
theorem dX11_choose_42 : decode cX11_choose 42 = .ok (.aload_n 0, 1) := by decide +kernel
theorem dX11_choose_43 : decode cX11_choose 43 = .ok (.getfield 41, 3) := by decide +kernel
theorem dX11_choose_46 : decode cX11_choose 46 = .ok (.iconst 0, 1) := by decide +kernel
theorem dX11_choose_47 : decode cX11_choose 47 = .ok (.iload_n 1, 1) := by decide +kernel
theorem dX11_choose_48 : decode cX11_choose 48 = .ok (.iastore, 1) := by decide +kernel
theorem dX11_choose_49 : decode cX11_choose 49 = .ok (.aload_n 0, 1) := by decide +kernel
theorem dX11_choose_50 : decode cX11_choose 50 = .ok (.getfield 44, 3) := by decide +kernel
theorem dX11_choose_53 : decode cX11_choose 53 = .ok (.iconst 0, 1) := by decide +kernel
theorem dX11_choose_54 : decode cX11_choose 54 = .ok (.iload_n 2, 1) := by decide +kernel
theorem dX11_choose_55 : decode cX11_choose 55 = .ok (.iastore, 1) := by decide +kernel
theorem dX11_choose_56 : decode cX11_choose 56 = .ok (.aload_n 0, 1) := by decide +kernel
theorem dX11_choose_57 : decode cX11_choose 57 = .ok (.getfield 47, 3) := by decide +kernel
theorem dX11_choose_60 : decode cX11_choose 60 = .ok (.iconst 0, 1) := by decide +kernel
theorem dX11_choose_61 : decode cX11_choose 61 = .ok (.iload_n 3, 1) := by decide +kernel
theorem dX11_choose_62 : decode cX11_choose 62 = .ok (.iastore, 1) := by decide +kernel
theorem dX11_choose_63 : decode cX11_choose 63 = .ok (.aload_n 0, 1) := by decide +kernel
theorem dX11_choose_64 : decode cX11_choose 64 = .ok (.getfield 47, 3) := by decide +kernel
theorem dX11_choose_67 : decode cX11_choose 67 = .ok (.iconst 1, 1) := by decide +kernel
theorem dX11_choose_68 : decode cX11_choose 68 = .ok (.iload 4, 2) := by decide +kernel
theorem dX11_choose_70 : decode cX11_choose 70 = .ok (.iastore, 1) := by decide +kernel
theorem dX11_choose_71 : decode cX11_choose 71 = .ok (.aload_n 0, 1) := by decide +kernel
theorem dX11_choose_72 : decode cX11_choose 72 = .ok (.getfield 50, 3) := by decide +kernel
theorem dX11_choose_75 : decode cX11_choose 75 = .ok (.iconst 0, 1) := by decide +kernel
theorem dX11_choose_76 : decode cX11_choose 76 = .ok (.iload 5, 2) := by decide +kernel
theorem dX11_choose_78 : decode cX11_choose 78 = .ok (.iastore, 1) := by decide +kernel
theorem dX11_choose_79 : decode cX11_choose 79 = .ok (.iconst 1, 1) := by decide +kernel
theorem dX11_choose_80 : decode cX11_choose 80 = .ok (.ireturn, 1) := by decide +kernel
theorem dX11_span_0 : decode cX11_span 0 = .ok (.aload_n 0, 1) := by decide +kernel
theorem dX11_span_1 : decode cX11_span 1 = .ok (.iconst 0, 1) := by decide +kernel
theorem dX11_span_2 : decode cX11_span 2 = .ok (.putfield 130, 3) := by decide +kernel
theorem dX11_span_5 : decode cX11_span 5 = .ok (.aload_n 0, 1) := by decide +kernel
theorem dX11_span_6 : decode cX11_span 6 = .ok (.iload_n 1, 1) := by decide +kernel
theorem dX11_span_7 : decode cX11_span 7 = .ok (.invokevirtual 157, 3) := by decide +kernel
theorem dX11_span_10 : decode cX11_span 10 = .ok (.ifCond .ne 5, 3) := by decide +kernel
theorem dX11_span_13 : decode cX11_span 13 = .ok (.iconst (-1), 1) := by decide +kernel
theorem dX11_span_14 : decode cX11_span 14 = .ok (.ireturn, 1) := by decide +kernel
theorem dX11_span_15 : decode cX11_span 15 = .ok (.aload_n 0, 1) := by decide +kernel
theorem dX11_span_16 : decode cX11_span 16 = .ok (.invokevirtual 311, 3) := by decide +kernel
theorem dX11_span_19 : decode cX11_span 19 = .ok (.iload_n 2, 1) := by decide +kernel
theorem dX11_span_20 : decode cX11_span 20 = .ok (.ifCond .ne 12, 3) := by decide +kernel
theorem dX11_span_23 : decode cX11_span 23 = .ok (.aload_n 0, 1) := by decide +kernel
theorem dX11_span_24 : decode cX11_span 24 = .ok (.getfield 108, 3) := by decide +kernel
theorem dX11_span_27 : decode cX11_span 27 = .ok (.iload_n 1, 1) := by decide +kernel
theorem dX11_span_28 : decode cX11_span 28 = .ok (.iaload, 1) := by decide +kernel
theorem dX11_span_29 : decode cX11_span 29 = .ok (.goto 40, 3) := by decide +kernel
theorem dX11_span_32 : decode cX11_span 32 = .ok (.iload_n 2, 1) := by decide +kernel
theorem dX11_span_33 : decode cX11_span 33 = .ok (.iconst 1, 1) := by decide +kernel
theorem dX11_span_34 : decode cX11_span 34 = .ok (.if_icmp .ne 12, 3) := by decide +kernel
theorem dX11_span_37 : decode cX11_span 37 = .ok (.aload_n 0, 1) := by decide +kernel
theorem dX11_span_38 : decode cX11_span 38 = .ok (.getfield 111, 3) := by decide +kernel
theorem dX11_span_41 : decode cX11_span 41 = .ok (.iload_n 1, 1) := by decide +kernel
theorem dX11_span_42 : decode cX11_span 42 = .ok (.iaload, 1) := by decide +kernel
theorem dX11_span_43 : decode cX11_span 43 = .ok (.goto 26, 3) := by decide +kernel
theorem dX11_span_46 : decode cX11_span 46 = .ok (.iload_n 2, 1) := by decide +kernel
theorem dX11_span_47 : decode cX11_span 47 = .ok (.iconst 2, 1) := by decide +kernel
theorem dX11_span_48 : decode cX11_span 48 = .ok (.if_icmp .ne 20, 3) := by decide +kernel
theorem dX11_span_51 : decode cX11_span 51 = .ok (.aload_n 0, 1) := by decide +kernel
theorem dX11_span_52 : decode cX11_span 52 = .ok (.getfield 114, 3) := by decide +kernel
theorem dX11_span_55 : decode cX11_span 55 = .ok (.iload_n 1, 1) := by decide +kernel
theorem dX11_span_56 : decode cX11_span 56 = .ok (.baload, 1) := by decide +kernel
theorem dX11_span_57 : decode cX11_span 57 = .ok (.ifCond .eq 7, 3) := by decide +kernel
theorem dX11_span_60 : decode cX11_span 60 = .ok (.iconst 1, 1) := by decide +kernel
theorem dX11_span_61 : decode cX11_span 61 = .ok (.goto 8, 3) := by decide +kernel
theorem dX11_span_64 : decode cX11_span 64 = .ok (.iconst 0, 1) := by decide +kernel
theorem dX11_span_65 : decode cX11_span 65 = .ok (.goto 4, 3) := by decide +kernel
theorem dX11_span_68 : decode cX11_span 68 = .ok (.iconst (-1), 1) := by decide +kernel
theorem dX11_span_69 : decode cX11_span 69 = .ok (.ireturn, 1) := by decide +kernel
theorem dX11_isUnit_0 : decode cX11_isUnit 0 = .ok (.iload_n 0, 1) := by decide +kernel
theorem dX11_isUnit_1 : decode cX11_isUnit 1 = .ok (.bipush 10, 2) := by decide +kernel
theorem dX11_isUnit_3 : decode cX11_isUnit 3 = .ok (.sipush 2000, 3) := by decide +kernel
theorem dX11_isUnit_6 : decode cX11_isUnit 6 = .ok (.invokestatic 138, 3) := by decide +kernel
theorem dX11_isUnit_9 : decode cX11_isUnit 9 = .ok (.ireturn, 1) := by decide +kernel
theorem dX11_areUnits_0 : decode cX11_areUnits 0 = .ok (.iload_n 0, 1) := by decide +kernel
theorem dX11_areUnits_1 : decode cX11_areUnits 1 = .ok (.invokestatic 314, 3) := by decide +kernel
theorem dX11_areUnits_4 : decode cX11_areUnits 4 = .ok (.ifCond .eq 27, 3) := by decide +kernel
theorem dX11_areUnits_7 : decode cX11_areUnits 7 = .ok (.iload_n 1, 1) := by decide +kernel
theorem dX11_areUnits_8 : decode cX11_areUnits 8 = .ok (.iload_n 0, 1) := by decide +kernel
theorem dX11_areUnits_9 : decode cX11_areUnits 9 = .ok (.sipush 2000, 3) := by decide +kernel
theorem dX11_areUnits_12 : decode cX11_areUnits 12 = .ok (.invokestatic 138, 3) := by decide +kernel
theorem dX11_areUnits_15 : decode cX11_areUnits 15 = .ok (.ifCond .eq 16, 3) := by decide +kernel
theorem dX11_areUnits_18 : decode cX11_areUnits 18 = .ok (.iload_n 1, 1) := by decide +kernel
theorem dX11_areUnits_19 : decode cX11_areUnits 19 = .ok (.iload_n 0, 1) := by decide +kernel
theorem dX11_areUnits_20 : decode cX11_areUnits 20 = .ok (.isub, 1) := by decide +kernel
theorem dX11_areUnits_21 : decode cX11_areUnits 21 = .ok (.sipush 300, 3) := by decide +kernel
theorem dX11_areUnits_24 : decode cX11_areUnits 24 = .ok (.if_icmp .gt 7, 3) := by decide +kernel
theorem dX11_areUnits_27 : decode cX11_areUnits 27 = .ok (.iconst 1, 1) := by decide +kernel
theorem dX11_areUnits_28 : decode cX11_areUnits 28 = .ok (.goto 4, 3) := by decide +kernel
theorem dX11_areUnits_31 : decode cX11_areUnits 31 = .ok (.iconst 0, 1) := by decide +kernel
theorem dX11_areUnits_32 : decode cX11_areUnits 32 = .ok (.ireturn, 1) := by decide +kernel
theorem dX11_far_0 : decode cX11_far 0 = .ok (.iload_n 2, 1) := by decide +kernel
theorem dX11_far_1 : decode cX11_far 1 = .ok (.iload_n 0, 1) := by decide +kernel
theorem dX11_far_2 : decode cX11_far 2 = .ok (.if_icmp .ge 9, 3) := by decide +kernel
theorem dX11_far_5 : decode cX11_far 5 = .ok (.iload_n 0, 1) := by decide +kernel
theorem dX11_far_6 : decode cX11_far 6 = .ok (.iload_n 2, 1) := by decide +kernel
theorem dX11_far_7 : decode cX11_far 7 = .ok (.isub, 1) := by decide +kernel
theorem dX11_far_8 : decode cX11_far 8 = .ok (.goto 15, 3) := by decide +kernel
theorem dX11_far_11 : decode cX11_far 11 = .ok (.iload_n 2, 1) := by decide +kernel
theorem dX11_far_12 : decode cX11_far 12 = .ok (.iload_n 1, 1) := by decide +kernel
theorem dX11_far_13 : decode cX11_far 13 = .ok (.if_icmp .le 9, 3) := by decide +kernel
theorem dX11_far_16 : decode cX11_far 16 = .ok (.iload_n 2, 1) := by decide +kernel
theorem dX11_far_17 : decode cX11_far 17 = .ok (.iload_n 1, 1) := by decide +kernel
theorem dX11_far_18 : decode cX11_far 18 = .ok (.isub, 1) := by decide +kernel
theorem dX11_far_19 : decode cX11_far 19 = .ok (.goto 4, 3) := by decide +kernel
theorem dX11_far_22 : decode cX11_far 22 = .ok (.iconst 0, 1) := by decide +kernel
theorem dX11_far_23 : decode cX11_far 23 = .ok (.ireturn, 1) := by decide +kernel
theorem dX11_timesOf_0 : decode cX11_timesOf 0 = .ok (.aload_n 0, 1) := by decide +kernel
theorem dX11_timesOf_1 : decode cX11_timesOf 1 = .ok (.iload_n 1, 1) := by decide +kernel
theorem dX11_timesOf_2 : decode cX11_timesOf 2 = .ok (.bipush 7, 2) := by decide +kernel
theorem dX11_timesOf_4 : decode cX11_timesOf 4 = .ok (.invokevirtual 291, 3) := by decide +kernel
theorem dX11_timesOf_7 : decode cX11_timesOf 7 = .ok (.ifCond .le 11, 3) := by decide +kernel
theorem dX11_timesOf_10 : decode cX11_timesOf 10 = .ok (.aload_n 0, 1) := by decide +kernel
theorem dX11_timesOf_11 : decode cX11_timesOf 11 = .ok (.iload_n 1, 1) := by decide +kernel
theorem dX11_timesOf_12 : decode cX11_timesOf 12 = .ok (.bipush 7, 2) := by decide +kernel
theorem dX11_timesOf_14 : decode cX11_timesOf 14 = .ok (.invokevirtual 291, 3) := by decide +kernel
theorem dX11_timesOf_17 : decode cX11_timesOf 17 = .ok (.ireturn, 1) := by decide +kernel
theorem dX11_timesOf_18 : decode cX11_timesOf 18 = .ok (.aload_n 0, 1) := by decide +kernel
theorem dX11_timesOf_19 : decode cX11_timesOf 19 = .ok (.getfield 108, 3) := by decide +kernel
theorem dX11_timesOf_22 : decode cX11_timesOf 22 = .ok (.iload_n 1, 1) := by decide +kernel
theorem dX11_timesOf_23 : decode cX11_timesOf 23 = .ok (.iaload, 1) := by decide +kernel
theorem dX11_timesOf_24 : decode cX11_timesOf 24 = .ok (.iload_n 2, 1) := by decide +kernel
theorem dX11_timesOf_25 : decode cX11_timesOf 25 = .ok (.idiv, 1) := by decide +kernel
theorem dX11_timesOf_26 : decode cX11_timesOf 26 = .ok (.istore_n 3, 1) := by decide +kernel
theorem dX11_timesOf_27 : decode cX11_timesOf 27 = .ok (.iload_n 3, 1) := by decide +kernel
theorem dX11_timesOf_28 : decode cX11_timesOf 28 = .ok (.iconst 1, 1) := by decide +kernel
theorem dX11_timesOf_29 : decode cX11_timesOf 29 = .ok (.if_icmp .ge 7, 3) := by decide +kernel
theorem dX11_timesOf_32 : decode cX11_timesOf 32 = .ok (.iconst 1, 1) := by decide +kernel
theorem dX11_timesOf_33 : decode cX11_timesOf 33 = .ok (.goto 4, 3) := by decide +kernel
theorem dX11_timesOf_36 : decode cX11_timesOf 36 = .ok (.iload_n 3, 1) := by decide +kernel
theorem dX11_timesOf_37 : decode cX11_timesOf 37 = .ok (.istore 4, 2) := by decide +kernel
theorem dX11_timesOf_39 : decode cX11_timesOf 39 = .ok (.aload_n 0, 1) := by decide +kernel
theorem dX11_timesOf_40 : decode cX11_timesOf 40 = .ok (.getfield 108, 3) := by decide +kernel
theorem dX11_timesOf_43 : decode cX11_timesOf 43 = .ok (.iload_n 1, 1) := by decide +kernel
theorem dX11_timesOf_44 : decode cX11_timesOf 44 = .ok (.iaload, 1) := by decide +kernel
theorem dX11_timesOf_45 : decode cX11_timesOf 45 = .ok (.aload_n 0, 1) := by decide +kernel
theorem dX11_timesOf_46 : decode cX11_timesOf 46 = .ok (.getfield 111, 3) := by decide +kernel
theorem dX11_timesOf_49 : decode cX11_timesOf 49 = .ok (.iload_n 1, 1) := by decide +kernel
theorem dX11_timesOf_50 : decode cX11_timesOf 50 = .ok (.iaload, 1) := by decide +kernel
theorem dX11_timesOf_51 : decode cX11_timesOf 51 = .ok (.iload 4, 2) := by decide +kernel
theorem dX11_timesOf_53 : decode cX11_timesOf 53 = .ok (.iconst 1, 1) := by decide +kernel
theorem dX11_timesOf_54 : decode cX11_timesOf 54 = .ok (.iadd, 1) := by decide +kernel
theorem dX11_timesOf_55 : decode cX11_timesOf 55 = .ok (.iload_n 2, 1) := by decide +kernel
theorem dX11_timesOf_56 : decode cX11_timesOf 56 = .ok (.imul, 1) := by decide +kernel
theorem dX11_timesOf_57 : decode cX11_timesOf 57 = .ok (.invokestatic 317, 3) := by decide +kernel
theorem dX11_timesOf_60 : decode cX11_timesOf 60 = .ok (.aload_n 0, 1) := by decide +kernel
theorem dX11_timesOf_61 : decode cX11_timesOf 61 = .ok (.getfield 108, 3) := by decide +kernel
theorem dX11_timesOf_64 : decode cX11_timesOf 64 = .ok (.iload_n 1, 1) := by decide +kernel
theorem dX11_timesOf_65 : decode cX11_timesOf 65 = .ok (.iaload, 1) := by decide +kernel
theorem dX11_timesOf_66 : decode cX11_timesOf 66 = .ok (.aload_n 0, 1) := by decide +kernel
theorem dX11_timesOf_67 : decode cX11_timesOf 67 = .ok (.getfield 111, 3) := by decide +kernel
theorem dX11_timesOf_70 : decode cX11_timesOf 70 = .ok (.iload_n 1, 1) := by decide +kernel
theorem dX11_timesOf_71 : decode cX11_timesOf 71 = .ok (.iaload, 1) := by decide +kernel
theorem dX11_timesOf_72 : decode cX11_timesOf 72 = .ok (.iload 4, 2) := by decide +kernel
theorem dX11_timesOf_74 : decode cX11_timesOf 74 = .ok (.iload_n 2, 1) := by decide +kernel
theorem dX11_timesOf_75 : decode cX11_timesOf 75 = .ok (.imul, 1) := by decide +kernel
theorem dX11_timesOf_76 : decode cX11_timesOf 76 = .ok (.invokestatic 317, 3) := by decide +kernel
theorem dX11_timesOf_79 : decode cX11_timesOf 79 = .ok (.if_icmp .ge 10, 3) := by decide +kernel
theorem dX11_timesOf_82 : decode cX11_timesOf 82 = .ok (.iload 4, 2) := by decide +kernel
theorem dX11_timesOf_84 : decode cX11_timesOf 84 = .ok (.iconst 1, 1) := by decide +kernel
theorem dX11_timesOf_85 : decode cX11_timesOf 85 = .ok (.iadd, 1) := by decide +kernel
theorem dX11_timesOf_86 : decode cX11_timesOf 86 = .ok (.goto 5, 3) := by decide +kernel
theorem dX11_timesOf_89 : decode cX11_timesOf 89 = .ok (.iload 4, 2) := by decide +kernel
theorem dX11_timesOf_91 : decode cX11_timesOf 91 = .ok (.ireturn, 1) := by decide +kernel
theorem dX11_off_0 : decode cX11_off 0 = .ok (.aload_n 0, 1) := by decide +kernel
theorem dX11_off_1 : decode cX11_off 1 = .ok (.getfield 108, 3) := by decide +kernel
theorem dX11_off_4 : decode cX11_off 4 = .ok (.iload_n 1, 1) := by decide +kernel
theorem dX11_off_5 : decode cX11_off 5 = .ok (.iaload, 1) := by decide +kernel
theorem dX11_off_6 : decode cX11_off 6 = .ok (.aload_n 0, 1) := by decide +kernel
theorem dX11_off_7 : decode cX11_off 7 = .ok (.getfield 111, 3) := by decide +kernel
theorem dX11_off_10 : decode cX11_off 10 = .ok (.iload_n 1, 1) := by decide +kernel
theorem dX11_off_11 : decode cX11_off 11 = .ok (.iaload, 1) := by decide +kernel
theorem dX11_off_12 : decode cX11_off 12 = .ok (.aload_n 0, 1) := by decide +kernel
theorem dX11_off_13 : decode cX11_off 13 = .ok (.iload_n 1, 1) := by decide +kernel
theorem dX11_off_14 : decode cX11_off 14 = .ok (.iload_n 2, 1) := by decide +kernel
theorem dX11_off_15 : decode cX11_off 15 = .ok (.invokevirtual 320, 3) := by decide +kernel
theorem dX11_off_18 : decode cX11_off 18 = .ok (.iload_n 2, 1) := by decide +kernel
theorem dX11_off_19 : decode cX11_off 19 = .ok (.imul, 1) := by decide +kernel
theorem dX11_off_20 : decode cX11_off 20 = .ok (.invokestatic 317, 3) := by decide +kernel
theorem dX11_off_23 : decode cX11_off 23 = .ok (.istore_n 3, 1) := by decide +kernel
theorem dX11_off_24 : decode cX11_off 24 = .ok (.iload_n 3, 1) := by decide +kernel
theorem dX11_off_25 : decode cX11_off 25 = .ok (.iload_n 2, 1) := by decide +kernel
theorem dX11_off_26 : decode cX11_off 26 = .ok (.if_icmp .ge 7, 3) := by decide +kernel
theorem dX11_off_29 : decode cX11_off 29 = .ok (.iload_n 3, 1) := by decide +kernel
theorem dX11_off_30 : decode cX11_off 30 = .ok (.goto 4, 3) := by decide +kernel
theorem dX11_off_33 : decode cX11_off 33 = .ok (.iload_n 2, 1) := by decide +kernel
theorem dX11_off_34 : decode cX11_off 34 = .ok (.ireturn, 1) := by decide +kernel
theorem dX11_shortOf_0 : decode cX11_shortOf 0 = .ok (.aload_n 0, 1) := by decide +kernel
theorem dX11_shortOf_1 : decode cX11_shortOf 1 = .ok (.getfield 111, 3) := by decide +kernel
theorem dX11_shortOf_4 : decode cX11_shortOf 4 = .ok (.iload_n 1, 1) := by decide +kernel
theorem dX11_shortOf_5 : decode cX11_shortOf 5 = .ok (.iaload, 1) := by decide +kernel
theorem dX11_shortOf_6 : decode cX11_shortOf 6 = .ok (.istore_n 3, 1) := by decide +kernel
theorem dX11_shortOf_7 : decode cX11_shortOf 7 = .ok (.aload_n 0, 1) := by decide +kernel
theorem dX11_shortOf_8 : decode cX11_shortOf 8 = .ok (.iload_n 1, 1) := by decide +kernel
theorem dX11_shortOf_9 : decode cX11_shortOf 9 = .ok (.bipush 7, 2) := by decide +kernel
theorem dX11_shortOf_11 : decode cX11_shortOf 11 = .ok (.invokevirtual 291, 3) := by decide +kernel
theorem dX11_shortOf_14 : decode cX11_shortOf 14 = .ok (.istore 4, 2) := by decide +kernel
theorem dX11_shortOf_16 : decode cX11_shortOf 16 = .ok (.iload 4, 2) := by decide +kernel
theorem dX11_shortOf_18 : decode cX11_shortOf 18 = .ok (.ifCond .ne 33, 3) := by decide +kernel
theorem dX11_shortOf_21 : decode cX11_shortOf 21 = .ok (.iload_n 3, 1) := by decide +kernel
theorem dX11_shortOf_22 : decode cX11_shortOf 22 = .ok (.iload_n 2, 1) := by decide +kernel
theorem dX11_shortOf_23 : decode cX11_shortOf 23 = .ok (.idiv, 1) := by decide +kernel
theorem dX11_shortOf_24 : decode cX11_shortOf 24 = .ok (.istore 4, 2) := by decide +kernel
theorem dX11_shortOf_26 : decode cX11_shortOf 26 = .ok (.iload 4, 2) := by decide +kernel
theorem dX11_shortOf_28 : decode cX11_shortOf 28 = .ok (.ifCond .eq 12, 3) := by decide +kernel
theorem dX11_shortOf_31 : decode cX11_shortOf 31 = .ok (.iconst 2, 1) := by decide +kernel
theorem dX11_shortOf_32 : decode cX11_shortOf 32 = .ok (.iload_n 3, 1) := by decide +kernel
theorem dX11_shortOf_33 : decode cX11_shortOf 33 = .ok (.iload_n 2, 1) := by decide +kernel
theorem dX11_shortOf_34 : decode cX11_shortOf 34 = .ok (.irem, 1) := by decide +kernel
theorem dX11_shortOf_35 : decode cX11_shortOf 35 = .ok (.imul, 1) := by decide +kernel
theorem dX11_shortOf_36 : decode cX11_shortOf 36 = .ok (.iload_n 2, 1) := by decide +kernel
theorem dX11_shortOf_37 : decode cX11_shortOf 37 = .ok (.if_icmp .lt 10, 3) := by decide +kernel
theorem dX11_shortOf_40 : decode cX11_shortOf 40 = .ok (.iload 4, 2) := by decide +kernel
theorem dX11_shortOf_42 : decode cX11_shortOf 42 = .ok (.iconst 1, 1) := by decide +kernel
theorem dX11_shortOf_43 : decode cX11_shortOf 43 = .ok (.iadd, 1) := by decide +kernel
theorem dX11_shortOf_44 : decode cX11_shortOf 44 = .ok (.goto 5, 3) := by decide +kernel
theorem dX11_shortOf_47 : decode cX11_shortOf 47 = .ok (.iload 4, 2) := by decide +kernel
theorem dX11_shortOf_49 : decode cX11_shortOf 49 = .ok (.istore 4, 2) := by decide +kernel
theorem dX11_shortOf_51 : decode cX11_shortOf 51 = .ok (.iload 4, 2) := by decide +kernel
theorem dX11_shortOf_53 : decode cX11_shortOf 53 = .ok (.iload_n 2, 1) := by decide +kernel
theorem dX11_shortOf_54 : decode cX11_shortOf 54 = .ok (.imul, 1) := by decide +kernel
theorem dX11_shortOf_55 : decode cX11_shortOf 55 = .ok (.iload_n 3, 1) := by decide +kernel
theorem dX11_shortOf_56 : decode cX11_shortOf 56 = .ok (.if_icmp .le 12, 3) := by decide +kernel
theorem dX11_shortOf_59 : decode cX11_shortOf 59 = .ok (.iload 4, 2) := by decide +kernel
theorem dX11_shortOf_61 : decode cX11_shortOf 61 = .ok (.iload_n 2, 1) := by decide +kernel
theorem dX11_shortOf_62 : decode cX11_shortOf 62 = .ok (.imul, 1) := by decide +kernel
theorem dX11_shortOf_63 : decode cX11_shortOf 63 = .ok (.iload_n 3, 1) := by decide +kernel
theorem dX11_shortOf_64 : decode cX11_shortOf 64 = .ok (.isub, 1) := by decide +kernel
theorem dX11_shortOf_65 : decode cX11_shortOf 65 = .ok (.goto 4, 3) := by decide +kernel
theorem dX11_shortOf_68 : decode cX11_shortOf 68 = .ok (.iconst 0, 1) := by decide +kernel
theorem dX11_shortOf_69 : decode cX11_shortOf 69 = .ok (.ireturn, 1) := by decide +kernel
theorem dX11_by_0 : decode cX11_by 0 = .ok (.aload_n 0, 1) := by decide +kernel
theorem dX11_by_1 : decode cX11_by 1 = .ok (.iconst 0, 1) := by decide +kernel
theorem dX11_by_2 : decode cX11_by 2 = .ok (.putfield 130, 3) := by decide +kernel
theorem dX11_by_5 : decode cX11_by 5 = .ok (.aload_n 0, 1) := by decide +kernel
theorem dX11_by_6 : decode cX11_by 6 = .ok (.iload_n 1, 1) := by decide +kernel
theorem dX11_by_7 : decode cX11_by 7 = .ok (.invokevirtual 157, 3) := by decide +kernel
theorem dX11_by_10 : decode cX11_by 10 = .ok (.ifCond .eq 10, 3) := by decide +kernel
theorem dX11_by_13 : decode cX11_by 13 = .ok (.iload_n 2, 1) := by decide +kernel
theorem dX11_by_14 : decode cX11_by 14 = .ok (.invokestatic 314, 3) := by decide +kernel
theorem dX11_by_17 : decode cX11_by 17 = .ok (.ifCond .ne 5, 3) := by decide +kernel
theorem dX11_by_20 : decode cX11_by 20 = .ok (.iconst (-1), 1) := by decide +kernel
theorem dX11_by_21 : decode cX11_by 21 = .ok (.ireturn, 1) := by decide +kernel
theorem dX11_by_22 : decode cX11_by 22 = .ok (.aload_n 0, 1) := by decide +kernel
theorem dX11_by_23 : decode cX11_by 23 = .ok (.invokevirtual 311, 3) := by decide +kernel
theorem dX11_by_26 : decode cX11_by 26 = .ok (.iload_n 3, 1) := by decide +kernel
theorem dX11_by_27 : decode cX11_by 27 = .ok (.tableswitch 69 0 3 #[29, 36, 55, 62], 29) := by decide +kernel
theorem dX11_by_56 : decode cX11_by 56 = .ok (.aload_n 0, 1) := by decide +kernel
theorem dX11_by_57 : decode cX11_by 57 = .ok (.iload_n 1, 1) := by decide +kernel
theorem dX11_by_58 : decode cX11_by 58 = .ok (.iload_n 2, 1) := by decide +kernel
theorem dX11_by_59 : decode cX11_by 59 = .ok (.invokevirtual 323, 3) := by decide +kernel
theorem dX11_by_62 : decode cX11_by 62 = .ok (.ireturn, 1) := by decide +kernel
theorem dX11_by_63 : decode cX11_by 63 = .ok (.bipush 8, 2) := by decide +kernel
theorem dX11_by_65 : decode cX11_by 65 = .ok (.aload_n 0, 1) := by decide +kernel
theorem dX11_by_66 : decode cX11_by 66 = .ok (.iload_n 1, 1) := by decide +kernel
theorem dX11_by_67 : decode cX11_by 67 = .ok (.iload_n 2, 1) := by decide +kernel
theorem dX11_by_68 : decode cX11_by 68 = .ok (.invokevirtual 323, 3) := by decide +kernel
theorem dX11_by_71 : decode cX11_by 71 = .ok (.imul, 1) := by decide +kernel
theorem dX11_by_72 : decode cX11_by 72 = .ok (.iload_n 2, 1) := by decide +kernel
theorem dX11_by_73 : decode cX11_by 73 = .ok (.if_icmp .gt 7, 3) := by decide +kernel
theorem dX11_by_76 : decode cX11_by 76 = .ok (.iconst 1, 1) := by decide +kernel
theorem dX11_by_77 : decode cX11_by 77 = .ok (.goto 4, 3) := by decide +kernel
theorem dX11_by_80 : decode cX11_by 80 = .ok (.iconst 0, 1) := by decide +kernel
theorem dX11_by_81 : decode cX11_by 81 = .ok (.ireturn, 1) := by decide +kernel
theorem dX11_by_82 : decode cX11_by 82 = .ok (.aload_n 0, 1) := by decide +kernel
theorem dX11_by_83 : decode cX11_by 83 = .ok (.iload_n 1, 1) := by decide +kernel
theorem dX11_by_84 : decode cX11_by 84 = .ok (.iload_n 2, 1) := by decide +kernel
theorem dX11_by_85 : decode cX11_by 85 = .ok (.invokevirtual 326, 3) := by decide +kernel
theorem dX11_by_88 : decode cX11_by 88 = .ok (.ireturn, 1) := by decide +kernel
theorem dX11_by_89 : decode cX11_by 89 = .ok (.aload_n 0, 1) := by decide +kernel
theorem dX11_by_90 : decode cX11_by 90 = .ok (.iload_n 1, 1) := by decide +kernel
theorem dX11_by_91 : decode cX11_by 91 = .ok (.iload_n 2, 1) := by decide +kernel
theorem dX11_by_92 : decode cX11_by 92 = .ok (.invokevirtual 320, 3) := by decide +kernel
theorem dX11_by_95 : decode cX11_by 95 = .ok (.ireturn, 1) := by decide +kernel
theorem dX11_by_96 : decode cX11_by 96 = .ok (.iconst (-1), 1) := by decide +kernel
theorem dX11_by_97 : decode cX11_by 97 = .ok (.ireturn, 1) := by decide +kernel
theorem dX11_scoreOf_0 : decode cX11_scoreOf 0 = .ok (.iconst 0, 1) := by decide +kernel
theorem dX11_scoreOf_1 : decode cX11_scoreOf 1 = .ok (.istore_n 2, 1) := by decide +kernel
theorem dX11_scoreOf_2 : decode cX11_scoreOf 2 = .ok (.iconst 0, 1) := by decide +kernel
theorem dX11_scoreOf_3 : decode cX11_scoreOf 3 = .ok (.istore_n 3, 1) := by decide +kernel
theorem dX11_scoreOf_4 : decode cX11_scoreOf 4 = .ok (.iload_n 3, 1) := by decide +kernel
theorem dX11_scoreOf_5 : decode cX11_scoreOf 5 = .ok (.aload_n 0, 1) := by decide +kernel
theorem dX11_scoreOf_6 : decode cX11_scoreOf 6 = .ok (.getfield 302, 3) := by decide +kernel
theorem dX11_scoreOf_9 : decode cX11_scoreOf 9 = .ok (.if_icmp .ge 35, 3) := by decide +kernel
theorem dX11_scoreOf_12 : decode cX11_scoreOf 12 = .ok (.iload_n 2, 1) := by decide +kernel
theorem dX11_scoreOf_13 : decode cX11_scoreOf 13 = .ok (.aload_n 0, 1) := by decide +kernel
theorem dX11_scoreOf_14 : decode cX11_scoreOf 14 = .ok (.getfield 114, 3) := by decide +kernel
theorem dX11_scoreOf_17 : decode cX11_scoreOf 17 = .ok (.iload_n 3, 1) := by decide +kernel
theorem dX11_scoreOf_18 : decode cX11_scoreOf 18 = .ok (.baload, 1) := by decide +kernel
theorem dX11_scoreOf_19 : decode cX11_scoreOf 19 = .ok (.ifCond .eq 16, 3) := by decide +kernel
theorem dX11_scoreOf_22 : decode cX11_scoreOf 22 = .ok (.iload_n 1, 1) := by decide +kernel
theorem dX11_scoreOf_23 : decode cX11_scoreOf 23 = .ok (.iconst 4, 1) := by decide +kernel
theorem dX11_scoreOf_24 : decode cX11_scoreOf 24 = .ok (.aload_n 0, 1) := by decide +kernel
theorem dX11_scoreOf_25 : decode cX11_scoreOf 25 = .ok (.iload_n 3, 1) := by decide +kernel
theorem dX11_scoreOf_26 : decode cX11_scoreOf 26 = .ok (.iload_n 1, 1) := by decide +kernel
theorem dX11_scoreOf_27 : decode cX11_scoreOf 27 = .ok (.invokevirtual 323, 3) := by decide +kernel
theorem dX11_scoreOf_30 : decode cX11_scoreOf 30 = .ok (.imul, 1) := by decide +kernel
theorem dX11_scoreOf_31 : decode cX11_scoreOf 31 = .ok (.isub, 1) := by decide +kernel
theorem dX11_scoreOf_32 : decode cX11_scoreOf 32 = .ok (.goto 4, 3) := by decide +kernel
theorem dX11_scoreOf_35 : decode cX11_scoreOf 35 = .ok (.iconst 0, 1) := by decide +kernel
theorem dX11_scoreOf_36 : decode cX11_scoreOf 36 = .ok (.iadd, 1) := by decide +kernel
theorem dX11_scoreOf_37 : decode cX11_scoreOf 37 = .ok (.istore_n 2, 1) := by decide +kernel
theorem dX11_scoreOf_38 : decode cX11_scoreOf 38 = .ok (.iinc 3 1, 3) := by decide +kernel
theorem dX11_scoreOf_41 : decode cX11_scoreOf 41 = .ok (.goto (-37), 3) := by decide +kernel
theorem dX11_scoreOf_44 : decode cX11_scoreOf 44 = .ok (.iload_n 2, 1) := by decide +kernel
theorem dX11_scoreOf_45 : decode cX11_scoreOf 45 = .ok (.ireturn, 1) := by decide +kernel
theorem dX11_score_0 : decode cX11_score 0 = .ok (.aload_n 0, 1) := by decide +kernel
theorem dX11_score_1 : decode cX11_score 1 = .ok (.iconst 0, 1) := by decide +kernel
theorem dX11_score_2 : decode cX11_score 2 = .ok (.putfield 130, 3) := by decide +kernel
theorem dX11_score_5 : decode cX11_score 5 = .ok (.iload_n 1, 1) := by decide +kernel
theorem dX11_score_6 : decode cX11_score 6 = .ok (.invokestatic 314, 3) := by decide +kernel
theorem dX11_score_9 : decode cX11_score 9 = .ok (.ifCond .ne 7, 3) := by decide +kernel
theorem dX11_score_12 : decode cX11_score 12 = .ok (.ldc_w 329, 3) := by decide +kernel
theorem dX11_score_15 : decode cX11_score 15 = .ok (.ireturn, 1) := by decide +kernel
theorem dX11_score_16 : decode cX11_score 16 = .ok (.aload_n 0, 1) := by decide +kernel
theorem dX11_score_17 : decode cX11_score 17 = .ok (.invokevirtual 311, 3) := by decide +kernel
theorem dX11_score_20 : decode cX11_score 20 = .ok (.aload_n 0, 1) := by decide +kernel
theorem dX11_score_21 : decode cX11_score 21 = .ok (.iload_n 1, 1) := by decide +kernel
theorem dX11_score_22 : decode cX11_score 22 = .ok (.invokevirtual 330, 3) := by decide +kernel
theorem dX11_score_25 : decode cX11_score 25 = .ok (.ireturn, 1) := by decide +kernel
theorem dX11_findScores_0 : decode cX11_findScores 0 = .ok (.iload_n 1, 1) := by decide +kernel
theorem dX11_findScores_1 : decode cX11_findScores 1 = .ok (.istore_n 3, 1) := by decide +kernel
theorem dX11_findScores_2 : decode cX11_findScores 2 = .ok (.iload_n 3, 1) := by decide +kernel
theorem dX11_findScores_3 : decode cX11_findScores 3 = .ok (.iload_n 2, 1) := by decide +kernel
theorem dX11_findScores_4 : decode cX11_findScores 4 = .ok (.if_icmp .gt 22, 3) := by decide +kernel
theorem dX11_findScores_7 : decode cX11_findScores 7 = .ok (.aload_n 0, 1) := by decide +kernel
theorem dX11_findScores_8 : decode cX11_findScores 8 = .ok (.getfield 117, 3) := by decide +kernel
theorem dX11_findScores_11 : decode cX11_findScores 11 = .ok (.iload_n 3, 1) := by decide +kernel
theorem dX11_findScores_12 : decode cX11_findScores 12 = .ok (.iload_n 1, 1) := by decide +kernel
theorem dX11_findScores_13 : decode cX11_findScores 13 = .ok (.isub, 1) := by decide +kernel
theorem dX11_findScores_14 : decode cX11_findScores 14 = .ok (.aload_n 0, 1) := by decide +kernel
theorem dX11_findScores_15 : decode cX11_findScores 15 = .ok (.iload_n 3, 1) := by decide +kernel
theorem dX11_findScores_16 : decode cX11_findScores 16 = .ok (.invokevirtual 330, 3) := by decide +kernel
theorem dX11_findScores_19 : decode cX11_findScores 19 = .ok (.iastore, 1) := by decide +kernel
theorem dX11_findScores_20 : decode cX11_findScores 20 = .ok (.iinc 3 1, 3) := by decide +kernel
theorem dX11_findScores_23 : decode cX11_findScores 23 = .ok (.goto (-21), 3) := by decide +kernel
theorem dX11_findScores_26 : decode cX11_findScores 26 = .ok (.return_, 1) := by decide +kernel
theorem dX11_against_0 : decode cX11_against 0 = .ok (.aload_n 0, 1) := by decide +kernel
theorem dX11_against_1 : decode cX11_against 1 = .ok (.getfield 117, 3) := by decide +kernel
theorem dX11_against_4 : decode cX11_against 4 = .ok (.iload_n 2, 1) := by decide +kernel
theorem dX11_against_5 : decode cX11_against 5 = .ok (.iload_n 1, 1) := by decide +kernel
theorem dX11_against_6 : decode cX11_against 6 = .ok (.isub, 1) := by decide +kernel
theorem dX11_against_7 : decode cX11_against 7 = .ok (.iaload, 1) := by decide +kernel
theorem dX11_against_8 : decode cX11_against 8 = .ok (.i2l, 1) := by decide +kernel
theorem dX11_against_9 : decode cX11_against 9 = .ok (.iload_n 3, 1) := by decide +kernel
theorem dX11_against_10 : decode cX11_against 10 = .ok (.i2l, 1) := by decide +kernel
theorem dX11_against_11 : decode cX11_against 11 = .ok (.lmul, 1) := by decide +kernel
theorem dX11_against_12 : decode cX11_against 12 = .ok (.aload_n 0, 1) := by decide +kernel
theorem dX11_against_13 : decode cX11_against 13 = .ok (.getfield 117, 3) := by decide +kernel
theorem dX11_against_16 : decode cX11_against 16 = .ok (.iload_n 3, 1) := by decide +kernel
theorem dX11_against_17 : decode cX11_against 17 = .ok (.iload_n 1, 1) := by decide +kernel
theorem dX11_against_18 : decode cX11_against 18 = .ok (.isub, 1) := by decide +kernel
theorem dX11_against_19 : decode cX11_against 19 = .ok (.iaload, 1) := by decide +kernel
theorem dX11_against_20 : decode cX11_against 20 = .ok (.i2l, 1) := by decide +kernel
theorem dX11_against_21 : decode cX11_against 21 = .ok (.iload_n 2, 1) := by decide +kernel
theorem dX11_against_22 : decode cX11_against 22 = .ok (.i2l, 1) := by decide +kernel
theorem dX11_against_23 : decode cX11_against 23 = .ok (.lmul, 1) := by decide +kernel
theorem dX11_against_24 : decode cX11_against 24 = .ok (.lsub, 1) := by decide +kernel
theorem dX11_against_25 : decode cX11_against 25 = .ok (.lreturn, 1) := by decide +kernel
theorem dX11_bestOf_0 : decode cX11_bestOf 0 = .ok (.aload_n 0, 1) := by decide +kernel
theorem dX11_bestOf_1 : decode cX11_bestOf 1 = .ok (.iload_n 1, 1) := by decide +kernel
theorem dX11_bestOf_2 : decode cX11_bestOf 2 = .ok (.iload_n 2, 1) := by decide +kernel
theorem dX11_bestOf_3 : decode cX11_bestOf 3 = .ok (.invokevirtual 333, 3) := by decide +kernel
theorem dX11_bestOf_6 : decode cX11_bestOf 6 = .ok (.iload_n 1, 1) := by decide +kernel
theorem dX11_bestOf_7 : decode cX11_bestOf 7 = .ok (.istore_n 3, 1) := by decide +kernel
theorem dX11_bestOf_8 : decode cX11_bestOf 8 = .ok (.iload_n 1, 1) := by decide +kernel
theorem dX11_bestOf_9 : decode cX11_bestOf 9 = .ok (.iconst 1, 1) := by decide +kernel
theorem dX11_bestOf_10 : decode cX11_bestOf 10 = .ok (.iadd, 1) := by decide +kernel
theorem dX11_bestOf_11 : decode cX11_bestOf 11 = .ok (.istore 4, 2) := by decide +kernel
theorem dX11_bestOf_13 : decode cX11_bestOf 13 = .ok (.iload 4, 2) := by decide +kernel
theorem dX11_bestOf_15 : decode cX11_bestOf 15 = .ok (.iload_n 2, 1) := by decide +kernel
theorem dX11_bestOf_16 : decode cX11_bestOf 16 = .ok (.if_icmp .gt 29, 3) := by decide +kernel
theorem dX11_bestOf_19 : decode cX11_bestOf 19 = .ok (.aload_n 0, 1) := by decide +kernel
theorem dX11_bestOf_20 : decode cX11_bestOf 20 = .ok (.iload_n 1, 1) := by decide +kernel
theorem dX11_bestOf_21 : decode cX11_bestOf 21 = .ok (.iload 4, 2) := by decide +kernel
theorem dX11_bestOf_23 : decode cX11_bestOf 23 = .ok (.iload_n 3, 1) := by decide +kernel
theorem dX11_bestOf_24 : decode cX11_bestOf 24 = .ok (.invokevirtual 336, 3) := by decide +kernel
theorem dX11_bestOf_27 : decode cX11_bestOf 27 = .ok (.lconst 0, 1) := by decide +kernel
theorem dX11_bestOf_28 : decode cX11_bestOf 28 = .ok (.lcmp, 1) := by decide +kernel
theorem dX11_bestOf_29 : decode cX11_bestOf 29 = .ok (.ifCond .lt 8, 3) := by decide +kernel
theorem dX11_bestOf_32 : decode cX11_bestOf 32 = .ok (.iload 4, 2) := by decide +kernel
theorem dX11_bestOf_34 : decode cX11_bestOf 34 = .ok (.goto 4, 3) := by decide +kernel
theorem dX11_bestOf_37 : decode cX11_bestOf 37 = .ok (.iload_n 3, 1) := by decide +kernel
theorem dX11_bestOf_38 : decode cX11_bestOf 38 = .ok (.istore_n 3, 1) := by decide +kernel
theorem dX11_bestOf_39 : decode cX11_bestOf 39 = .ok (.iinc 4 1, 3) := by decide +kernel
theorem dX11_bestOf_42 : decode cX11_bestOf 42 = .ok (.goto (-29), 3) := by decide +kernel
theorem dX11_bestOf_45 : decode cX11_bestOf 45 = .ok (.iload_n 3, 1) := by decide +kernel
theorem dX11_bestOf_46 : decode cX11_bestOf 46 = .ok (.ireturn, 1) := by decide +kernel
theorem dX11_best_0 : decode cX11_best 0 = .ok (.aload_n 0, 1) := by decide +kernel
theorem dX11_best_1 : decode cX11_best 1 = .ok (.iconst 0, 1) := by decide +kernel
theorem dX11_best_2 : decode cX11_best 2 = .ok (.putfield 130, 3) := by decide +kernel
theorem dX11_best_5 : decode cX11_best 5 = .ok (.iload_n 1, 1) := by decide +kernel
theorem dX11_best_6 : decode cX11_best 6 = .ok (.iload_n 2, 1) := by decide +kernel
theorem dX11_best_7 : decode cX11_best 7 = .ok (.invokestatic 340, 3) := by decide +kernel
theorem dX11_best_10 : decode cX11_best 10 = .ok (.ifCond .ne 5, 3) := by decide +kernel
theorem dX11_best_13 : decode cX11_best 13 = .ok (.iconst (-1), 1) := by decide +kernel
theorem dX11_best_14 : decode cX11_best 14 = .ok (.ireturn, 1) := by decide +kernel
theorem dX11_best_15 : decode cX11_best 15 = .ok (.aload_n 0, 1) := by decide +kernel
theorem dX11_best_16 : decode cX11_best 16 = .ok (.invokevirtual 311, 3) := by decide +kernel
theorem dX11_best_19 : decode cX11_best 19 = .ok (.aload_n 0, 1) := by decide +kernel
theorem dX11_best_20 : decode cX11_best 20 = .ok (.invokevirtual 344, 3) := by decide +kernel
theorem dX11_best_23 : decode cX11_best 23 = .ok (.ifCond .le 12, 3) := by decide +kernel
theorem dX11_best_26 : decode cX11_best 26 = .ok (.aload_n 0, 1) := by decide +kernel
theorem dX11_best_27 : decode cX11_best 27 = .ok (.iload_n 1, 1) := by decide +kernel
theorem dX11_best_28 : decode cX11_best 28 = .ok (.iload_n 2, 1) := by decide +kernel
theorem dX11_best_29 : decode cX11_best 29 = .ok (.invokevirtual 347, 3) := by decide +kernel
theorem dX11_best_32 : decode cX11_best 32 = .ok (.goto 4, 3) := by decide +kernel
theorem dX11_best_35 : decode cX11_best 35 = .ok (.iconst (-1), 1) := by decide +kernel
theorem dX11_best_36 : decode cX11_best 36 = .ok (.ireturn, 1) := by decide +kernel
theorem dX11_isPeak_0 : decode cX11_isPeak 0 = .ok (.iload_n 3, 1) := by decide +kernel
theorem dX11_isPeak_1 : decode cX11_isPeak 1 = .ok (.iload_n 1, 1) := by decide +kernel
theorem dX11_isPeak_2 : decode cX11_isPeak 2 = .ok (.if_icmp .eq 17, 3) := by decide +kernel
theorem dX11_isPeak_5 : decode cX11_isPeak 5 = .ok (.aload_n 0, 1) := by decide +kernel
theorem dX11_isPeak_6 : decode cX11_isPeak 6 = .ok (.iload_n 1, 1) := by decide +kernel
theorem dX11_isPeak_7 : decode cX11_isPeak 7 = .ok (.iload_n 3, 1) := by decide +kernel
theorem dX11_isPeak_8 : decode cX11_isPeak 8 = .ok (.iload_n 3, 1) := by decide +kernel
theorem dX11_isPeak_9 : decode cX11_isPeak 9 = .ok (.iconst 1, 1) := by decide +kernel
theorem dX11_isPeak_10 : decode cX11_isPeak 10 = .ok (.isub, 1) := by decide +kernel
theorem dX11_isPeak_11 : decode cX11_isPeak 11 = .ok (.invokevirtual 336, 3) := by decide +kernel
theorem dX11_isPeak_14 : decode cX11_isPeak 14 = .ok (.lconst 0, 1) := by decide +kernel
theorem dX11_isPeak_15 : decode cX11_isPeak 15 = .ok (.lcmp, 1) := by decide +kernel
theorem dX11_isPeak_16 : decode cX11_isPeak 16 = .ok (.ifCond .le 26, 3) := by decide +kernel
theorem dX11_isPeak_19 : decode cX11_isPeak 19 = .ok (.iload_n 3, 1) := by decide +kernel
theorem dX11_isPeak_20 : decode cX11_isPeak 20 = .ok (.iload_n 2, 1) := by decide +kernel
theorem dX11_isPeak_21 : decode cX11_isPeak 21 = .ok (.if_icmp .eq 17, 3) := by decide +kernel
theorem dX11_isPeak_24 : decode cX11_isPeak 24 = .ok (.aload_n 0, 1) := by decide +kernel
theorem dX11_isPeak_25 : decode cX11_isPeak 25 = .ok (.iload_n 1, 1) := by decide +kernel
theorem dX11_isPeak_26 : decode cX11_isPeak 26 = .ok (.iload_n 3, 1) := by decide +kernel
theorem dX11_isPeak_27 : decode cX11_isPeak 27 = .ok (.iload_n 3, 1) := by decide +kernel
theorem dX11_isPeak_28 : decode cX11_isPeak 28 = .ok (.iconst 1, 1) := by decide +kernel
theorem dX11_isPeak_29 : decode cX11_isPeak 29 = .ok (.iadd, 1) := by decide +kernel
theorem dX11_isPeak_30 : decode cX11_isPeak 30 = .ok (.invokevirtual 336, 3) := by decide +kernel
theorem dX11_isPeak_33 : decode cX11_isPeak 33 = .ok (.lconst 0, 1) := by decide +kernel
theorem dX11_isPeak_34 : decode cX11_isPeak 34 = .ok (.lcmp, 1) := by decide +kernel
theorem dX11_isPeak_35 : decode cX11_isPeak 35 = .ok (.ifCond .lt 7, 3) := by decide +kernel
theorem dX11_isPeak_38 : decode cX11_isPeak 38 = .ok (.iconst 1, 1) := by decide +kernel
theorem dX11_isPeak_39 : decode cX11_isPeak 39 = .ok (.goto 4, 3) := by decide +kernel
theorem dX11_isPeak_42 : decode cX11_isPeak 42 = .ok (.iconst 0, 1) := by decide +kernel
theorem dX11_isPeak_43 : decode cX11_isPeak 43 = .ok (.ireturn, 1) := by decide +kernel
theorem dX11_placeOf_0 : decode cX11_placeOf 0 = .ok (.aload_n 0, 1) := by decide +kernel
theorem dX11_placeOf_1 : decode cX11_placeOf 1 = .ok (.iload_n 1, 1) := by decide +kernel
theorem dX11_placeOf_2 : decode cX11_placeOf 2 = .ok (.iload_n 2, 1) := by decide +kernel
theorem dX11_placeOf_3 : decode cX11_placeOf 3 = .ok (.iload_n 3, 1) := by decide +kernel
theorem dX11_placeOf_4 : decode cX11_placeOf 4 = .ok (.invokevirtual 350, 3) := by decide +kernel
theorem dX11_placeOf_7 : decode cX11_placeOf 7 = .ok (.ifCond .ne 7, 3) := by decide +kernel
theorem dX11_placeOf_10 : decode cX11_placeOf 10 = .ok (.sipush 9999, 3) := by decide +kernel
theorem dX11_placeOf_13 : decode cX11_placeOf 13 = .ok (.ireturn, 1) := by decide +kernel
theorem dX11_placeOf_14 : decode cX11_placeOf 14 = .ok (.iconst 0, 1) := by decide +kernel
theorem dX11_placeOf_15 : decode cX11_placeOf 15 = .ok (.istore 4, 2) := by decide +kernel
theorem dX11_placeOf_17 : decode cX11_placeOf 17 = .ok (.iload_n 1, 1) := by decide +kernel
theorem dX11_placeOf_18 : decode cX11_placeOf 18 = .ok (.istore 5, 2) := by decide +kernel
theorem dX11_placeOf_20 : decode cX11_placeOf 20 = .ok (.iload 5, 2) := by decide +kernel
theorem dX11_placeOf_22 : decode cX11_placeOf 22 = .ok (.iload_n 2, 1) := by decide +kernel
theorem dX11_placeOf_23 : decode cX11_placeOf 23 = .ok (.if_icmp .gt 66, 3) := by decide +kernel
theorem dX11_placeOf_26 : decode cX11_placeOf 26 = .ok (.aload_n 0, 1) := by decide +kernel
theorem dX11_placeOf_27 : decode cX11_placeOf 27 = .ok (.iload_n 1, 1) := by decide +kernel
theorem dX11_placeOf_28 : decode cX11_placeOf 28 = .ok (.iload 5, 2) := by decide +kernel
theorem dX11_placeOf_30 : decode cX11_placeOf 30 = .ok (.iload_n 3, 1) := by decide +kernel
theorem dX11_placeOf_31 : decode cX11_placeOf 31 = .ok (.invokevirtual 336, 3) := by decide +kernel
theorem dX11_placeOf_34 : decode cX11_placeOf 34 = .ok (.lstore 6, 2) := by decide +kernel
theorem dX11_placeOf_36 : decode cX11_placeOf 36 = .ok (.iload 4, 2) := by decide +kernel
theorem dX11_placeOf_38 : decode cX11_placeOf 38 = .ok (.iload 5, 2) := by decide +kernel
theorem dX11_placeOf_40 : decode cX11_placeOf 40 = .ok (.iload_n 3, 1) := by decide +kernel
theorem dX11_placeOf_41 : decode cX11_placeOf 41 = .ok (.if_icmp .eq 38, 3) := by decide +kernel
theorem dX11_placeOf_44 : decode cX11_placeOf 44 = .ok (.aload_n 0, 1) := by decide +kernel
theorem dX11_placeOf_45 : decode cX11_placeOf 45 = .ok (.iload_n 1, 1) := by decide +kernel
theorem dX11_placeOf_46 : decode cX11_placeOf 46 = .ok (.iload_n 2, 1) := by decide +kernel
theorem dX11_placeOf_47 : decode cX11_placeOf 47 = .ok (.iload 5, 2) := by decide +kernel
theorem dX11_placeOf_49 : decode cX11_placeOf 49 = .ok (.invokevirtual 350, 3) := by decide +kernel
theorem dX11_placeOf_52 : decode cX11_placeOf 52 = .ok (.ifCond .eq 27, 3) := by decide +kernel
theorem dX11_placeOf_55 : decode cX11_placeOf 55 = .ok (.lload 6, 2) := by decide +kernel
theorem dX11_placeOf_57 : decode cX11_placeOf 57 = .ok (.lconst 0, 1) := by decide +kernel
theorem dX11_placeOf_58 : decode cX11_placeOf 58 = .ok (.lcmp, 1) := by decide +kernel
theorem dX11_placeOf_59 : decode cX11_placeOf 59 = .ok (.ifCond .gt 16, 3) := by decide +kernel
theorem dX11_placeOf_62 : decode cX11_placeOf 62 = .ok (.lload 6, 2) := by decide +kernel
theorem dX11_placeOf_64 : decode cX11_placeOf 64 = .ok (.lconst 0, 1) := by decide +kernel
theorem dX11_placeOf_65 : decode cX11_placeOf 65 = .ok (.lcmp, 1) := by decide +kernel
theorem dX11_placeOf_66 : decode cX11_placeOf 66 = .ok (.ifCond .ne 13, 3) := by decide +kernel
theorem dX11_placeOf_69 : decode cX11_placeOf 69 = .ok (.iload 5, 2) := by decide +kernel
theorem dX11_placeOf_71 : decode cX11_placeOf 71 = .ok (.iload_n 3, 1) := by decide +kernel
theorem dX11_placeOf_72 : decode cX11_placeOf 72 = .ok (.if_icmp .le 7, 3) := by decide +kernel
theorem dX11_placeOf_75 : decode cX11_placeOf 75 = .ok (.iconst 1, 1) := by decide +kernel
theorem dX11_placeOf_76 : decode cX11_placeOf 76 = .ok (.goto 4, 3) := by decide +kernel
theorem dX11_placeOf_79 : decode cX11_placeOf 79 = .ok (.iconst 0, 1) := by decide +kernel
theorem dX11_placeOf_80 : decode cX11_placeOf 80 = .ok (.iadd, 1) := by decide +kernel
theorem dX11_placeOf_81 : decode cX11_placeOf 81 = .ok (.istore 4, 2) := by decide +kernel
theorem dX11_placeOf_83 : decode cX11_placeOf 83 = .ok (.iinc 5 1, 3) := by decide +kernel
theorem dX11_placeOf_86 : decode cX11_placeOf 86 = .ok (.goto (-66), 3) := by decide +kernel
theorem dX11_placeOf_89 : decode cX11_placeOf 89 = .ok (.iload 4, 2) := by decide +kernel
theorem dX11_placeOf_91 : decode cX11_placeOf 91 = .ok (.ireturn, 1) := by decide +kernel
theorem dX11_peak_0 : decode cX11_peak 0 = .ok (.aload_n 0, 1) := by decide +kernel
theorem dX11_peak_1 : decode cX11_peak 1 = .ok (.iconst 0, 1) := by decide +kernel
theorem dX11_peak_2 : decode cX11_peak 2 = .ok (.putfield 130, 3) := by decide +kernel
theorem dX11_peak_5 : decode cX11_peak 5 = .ok (.iload_n 1, 1) := by decide +kernel
theorem dX11_peak_6 : decode cX11_peak 6 = .ok (.iload_n 2, 1) := by decide +kernel
theorem dX11_peak_7 : decode cX11_peak 7 = .ok (.invokestatic 340, 3) := by decide +kernel
theorem dX11_peak_10 : decode cX11_peak 10 = .ok (.ifCond .ne 5, 3) := by decide +kernel
theorem dX11_peak_13 : decode cX11_peak 13 = .ok (.iconst (-1), 1) := by decide +kernel
theorem dX11_peak_14 : decode cX11_peak 14 = .ok (.ireturn, 1) := by decide +kernel
theorem dX11_peak_15 : decode cX11_peak 15 = .ok (.aload_n 0, 1) := by decide +kernel
theorem dX11_peak_16 : decode cX11_peak 16 = .ok (.invokevirtual 311, 3) := by decide +kernel
theorem dX11_peak_19 : decode cX11_peak 19 = .ok (.aload_n 0, 1) := by decide +kernel
theorem dX11_peak_20 : decode cX11_peak 20 = .ok (.invokevirtual 344, 3) := by decide +kernel
theorem dX11_peak_23 : decode cX11_peak 23 = .ok (.ifCond .eq 14, 3) := by decide +kernel
theorem dX11_peak_26 : decode cX11_peak 26 = .ok (.iload_n 3, 1) := by decide +kernel
theorem dX11_peak_27 : decode cX11_peak 27 = .ok (.iconst 0, 1) := by decide +kernel
theorem dX11_peak_28 : decode cX11_peak 28 = .ok (.iload_n 2, 1) := by decide +kernel
theorem dX11_peak_29 : decode cX11_peak 29 = .ok (.iload_n 1, 1) := by decide +kernel
theorem dX11_peak_30 : decode cX11_peak 30 = .ok (.isub, 1) := by decide +kernel
theorem dX11_peak_31 : decode cX11_peak 31 = .ok (.invokestatic 138, 3) := by decide +kernel
theorem dX11_peak_34 : decode cX11_peak 34 = .ok (.ifCond .ne 5, 3) := by decide +kernel
theorem dX11_peak_37 : decode cX11_peak 37 = .ok (.iconst (-1), 1) := by decide +kernel
theorem dX11_peak_38 : decode cX11_peak 38 = .ok (.ireturn, 1) := by decide +kernel
theorem dX11_peak_39 : decode cX11_peak 39 = .ok (.aload_n 0, 1) := by decide +kernel
theorem dX11_peak_40 : decode cX11_peak 40 = .ok (.iload_n 1, 1) := by decide +kernel
theorem dX11_peak_41 : decode cX11_peak 41 = .ok (.iload_n 2, 1) := by decide +kernel
theorem dX11_peak_42 : decode cX11_peak 42 = .ok (.invokevirtual 333, 3) := by decide +kernel
theorem dX11_peak_45 : decode cX11_peak 45 = .ok (.iload_n 1, 1) := by decide +kernel
theorem dX11_peak_46 : decode cX11_peak 46 = .ok (.istore 4, 2) := by decide +kernel
theorem dX11_peak_48 : decode cX11_peak 48 = .ok (.iload 4, 2) := by decide +kernel
theorem dX11_peak_50 : decode cX11_peak 50 = .ok (.iload_n 2, 1) := by decide +kernel
theorem dX11_peak_51 : decode cX11_peak 51 = .ok (.if_icmp .gt 24, 3) := by decide +kernel
theorem dX11_peak_54 : decode cX11_peak 54 = .ok (.aload_n 0, 1) := by decide +kernel
theorem dX11_peak_55 : decode cX11_peak 55 = .ok (.iload_n 1, 1) := by decide +kernel
theorem dX11_peak_56 : decode cX11_peak 56 = .ok (.iload_n 2, 1) := by decide +kernel
theorem dX11_peak_57 : decode cX11_peak 57 = .ok (.iload 4, 2) := by decide +kernel
theorem dX11_peak_59 : decode cX11_peak 59 = .ok (.invokevirtual 353, 3) := by decide +kernel
theorem dX11_peak_62 : decode cX11_peak 62 = .ok (.iload_n 3, 1) := by decide +kernel
theorem dX11_peak_63 : decode cX11_peak 63 = .ok (.if_icmp .ne 6, 3) := by decide +kernel
theorem dX11_peak_66 : decode cX11_peak 66 = .ok (.iload 4, 2) := by decide +kernel
theorem dX11_peak_68 : decode cX11_peak 68 = .ok (.ireturn, 1) := by decide +kernel
theorem dX11_peak_69 : decode cX11_peak 69 = .ok (.iinc 4 1, 3) := by decide +kernel
theorem dX11_peak_72 : decode cX11_peak 72 = .ok (.goto (-24), 3) := by decide +kernel
theorem dX11_peak_75 : decode cX11_peak 75 = .ok (.iconst (-1), 1) := by decide +kernel
theorem dX11_peak_76 : decode cX11_peak 76 = .ok (.ireturn, 1) := by decide +kernel
theorem dX11_sumOf_0 : decode cX11_sumOf 0 = .ok (.lconst 0, 1) := by decide +kernel
theorem dX11_sumOf_1 : decode cX11_sumOf 1 = .ok (.lstore_n 3, 1) := by decide +kernel
theorem dX11_sumOf_2 : decode cX11_sumOf 2 = .ok (.iconst 0, 1) := by decide +kernel
theorem dX11_sumOf_3 : decode cX11_sumOf 3 = .ok (.istore 5, 2) := by decide +kernel
theorem dX11_sumOf_5 : decode cX11_sumOf 5 = .ok (.iload 5, 2) := by decide +kernel
theorem dX11_sumOf_7 : decode cX11_sumOf 7 = .ok (.aload_n 0, 1) := by decide +kernel
theorem dX11_sumOf_8 : decode cX11_sumOf 8 = .ok (.getfield 302, 3) := by decide +kernel
theorem dX11_sumOf_11 : decode cX11_sumOf 11 = .ok (.if_icmp .ge 74, 3) := by decide +kernel
theorem dX11_sumOf_14 : decode cX11_sumOf 14 = .ok (.aload_n 0, 1) := by decide +kernel
theorem dX11_sumOf_15 : decode cX11_sumOf 15 = .ok (.getfield 114, 3) := by decide +kernel
theorem dX11_sumOf_18 : decode cX11_sumOf 18 = .ok (.iload 5, 2) := by decide +kernel
theorem dX11_sumOf_20 : decode cX11_sumOf 20 = .ok (.baload, 1) := by decide +kernel
theorem dX11_sumOf_21 : decode cX11_sumOf 21 = .ok (.ifCond .eq 58, 3) := by decide +kernel
theorem dX11_sumOf_24 : decode cX11_sumOf 24 = .ok (.aload_n 0, 1) := by decide +kernel
theorem dX11_sumOf_25 : decode cX11_sumOf 25 = .ok (.iload 5, 2) := by decide +kernel
theorem dX11_sumOf_27 : decode cX11_sumOf 27 = .ok (.iload_n 1, 1) := by decide +kernel
theorem dX11_sumOf_28 : decode cX11_sumOf 28 = .ok (.invokevirtual 323, 3) := by decide +kernel
theorem dX11_sumOf_31 : decode cX11_sumOf 31 = .ok (.istore 6, 2) := by decide +kernel
theorem dX11_sumOf_33 : decode cX11_sumOf 33 = .ok (.aload_n 0, 1) := by decide +kernel
theorem dX11_sumOf_34 : decode cX11_sumOf 34 = .ok (.iload 5, 2) := by decide +kernel
theorem dX11_sumOf_36 : decode cX11_sumOf 36 = .ok (.iload_n 2, 1) := by decide +kernel
theorem dX11_sumOf_37 : decode cX11_sumOf 37 = .ok (.invokevirtual 323, 3) := by decide +kernel
theorem dX11_sumOf_40 : decode cX11_sumOf 40 = .ok (.istore 7, 2) := by decide +kernel
theorem dX11_sumOf_42 : decode cX11_sumOf 42 = .ok (.lload_n 3, 1) := by decide +kernel
theorem dX11_sumOf_43 : decode cX11_sumOf 43 = .ok (.iload 6, 2) := by decide +kernel
theorem dX11_sumOf_45 : decode cX11_sumOf 45 = .ok (.iload_n 2, 1) := by decide +kernel
theorem dX11_sumOf_46 : decode cX11_sumOf 46 = .ok (.imul, 1) := by decide +kernel
theorem dX11_sumOf_47 : decode cX11_sumOf 47 = .ok (.iload 7, 2) := by decide +kernel
theorem dX11_sumOf_49 : decode cX11_sumOf 49 = .ok (.iload_n 1, 1) := by decide +kernel
theorem dX11_sumOf_50 : decode cX11_sumOf 50 = .ok (.imul, 1) := by decide +kernel
theorem dX11_sumOf_51 : decode cX11_sumOf 51 = .ok (.if_icmp .gt 16, 3) := by decide +kernel
theorem dX11_sumOf_54 : decode cX11_sumOf 54 = .ok (.iload_n 1, 1) := by decide +kernel
theorem dX11_sumOf_55 : decode cX11_sumOf 55 = .ok (.iconst 4, 1) := by decide +kernel
theorem dX11_sumOf_56 : decode cX11_sumOf 56 = .ok (.iload 6, 2) := by decide +kernel
theorem dX11_sumOf_58 : decode cX11_sumOf 58 = .ok (.imul, 1) := by decide +kernel
theorem dX11_sumOf_59 : decode cX11_sumOf 59 = .ok (.isub, 1) := by decide +kernel
theorem dX11_sumOf_60 : decode cX11_sumOf 60 = .ok (.i2l, 1) := by decide +kernel
theorem dX11_sumOf_61 : decode cX11_sumOf 61 = .ok (.iload_n 2, 1) := by decide +kernel
theorem dX11_sumOf_62 : decode cX11_sumOf 62 = .ok (.i2l, 1) := by decide +kernel
theorem dX11_sumOf_63 : decode cX11_sumOf 63 = .ok (.lmul, 1) := by decide +kernel
theorem dX11_sumOf_64 : decode cX11_sumOf 64 = .ok (.goto 13, 3) := by decide +kernel
theorem dX11_sumOf_67 : decode cX11_sumOf 67 = .ok (.iload_n 2, 1) := by decide +kernel
theorem dX11_sumOf_68 : decode cX11_sumOf 68 = .ok (.iconst 4, 1) := by decide +kernel
theorem dX11_sumOf_69 : decode cX11_sumOf 69 = .ok (.iload 7, 2) := by decide +kernel
theorem dX11_sumOf_71 : decode cX11_sumOf 71 = .ok (.imul, 1) := by decide +kernel
theorem dX11_sumOf_72 : decode cX11_sumOf 72 = .ok (.isub, 1) := by decide +kernel
theorem dX11_sumOf_73 : decode cX11_sumOf 73 = .ok (.i2l, 1) := by decide +kernel
theorem dX11_sumOf_74 : decode cX11_sumOf 74 = .ok (.iload_n 1, 1) := by decide +kernel
theorem dX11_sumOf_75 : decode cX11_sumOf 75 = .ok (.i2l, 1) := by decide +kernel
theorem dX11_sumOf_76 : decode cX11_sumOf 76 = .ok (.lmul, 1) := by decide +kernel
theorem dX11_sumOf_77 : decode cX11_sumOf 77 = .ok (.ladd, 1) := by decide +kernel
theorem dX11_sumOf_78 : decode cX11_sumOf 78 = .ok (.lstore_n 3, 1) := by decide +kernel
theorem dX11_sumOf_79 : decode cX11_sumOf 79 = .ok (.iinc 5 1, 3) := by decide +kernel
theorem dX11_sumOf_82 : decode cX11_sumOf 82 = .ok (.goto (-77), 3) := by decide +kernel
theorem dX11_sumOf_85 : decode cX11_sumOf 85 = .ok (.lload_n 3, 1) := by decide +kernel
theorem dX11_sumOf_86 : decode cX11_sumOf 86 = .ok (.lreturn, 1) := by decide +kernel
theorem dX11_pair_0 : decode cX11_pair 0 = .ok (.aload_n 0, 1) := by decide +kernel
theorem dX11_pair_1 : decode cX11_pair 1 = .ok (.iconst 0, 1) := by decide +kernel
theorem dX11_pair_2 : decode cX11_pair 2 = .ok (.putfield 130, 3) := by decide +kernel
theorem dX11_pair_5 : decode cX11_pair 5 = .ok (.iload_n 1, 1) := by decide +kernel
theorem dX11_pair_6 : decode cX11_pair 6 = .ok (.iload_n 2, 1) := by decide +kernel
theorem dX11_pair_7 : decode cX11_pair 7 = .ok (.invokestatic 340, 3) := by decide +kernel
theorem dX11_pair_10 : decode cX11_pair 10 = .ok (.ifCond .eq 16, 3) := by decide +kernel
theorem dX11_pair_13 : decode cX11_pair 13 = .ok (.iload_n 1, 1) := by decide +kernel
theorem dX11_pair_14 : decode cX11_pair 14 = .ok (.iload_n 2, 1) := by decide +kernel
theorem dX11_pair_15 : decode cX11_pair 15 = .ok (.if_icmp .eq 11, 3) := by decide +kernel
theorem dX11_pair_18 : decode cX11_pair 18 = .ok (.iload_n 2, 1) := by decide +kernel
theorem dX11_pair_19 : decode cX11_pair 19 = .ok (.iload_n 1, 1) := by decide +kernel
theorem dX11_pair_20 : decode cX11_pair 20 = .ok (.isub, 1) := by decide +kernel
theorem dX11_pair_21 : decode cX11_pair 21 = .ok (.bipush 40, 2) := by decide +kernel
theorem dX11_pair_23 : decode cX11_pair 23 = .ok (.if_icmp .le 5, 3) := by decide +kernel
theorem dX11_pair_26 : decode cX11_pair 26 = .ok (.iconst (-1), 1) := by decide +kernel
theorem dX11_pair_27 : decode cX11_pair 27 = .ok (.ireturn, 1) := by decide +kernel
theorem dX11_pair_28 : decode cX11_pair 28 = .ok (.aload_n 0, 1) := by decide +kernel
theorem dX11_pair_29 : decode cX11_pair 29 = .ok (.invokevirtual 311, 3) := by decide +kernel
theorem dX11_pair_32 : decode cX11_pair 32 = .ok (.aload_n 0, 1) := by decide +kernel
theorem dX11_pair_33 : decode cX11_pair 33 = .ok (.invokevirtual 344, 3) := by decide +kernel
theorem dX11_pair_36 : decode cX11_pair 36 = .ok (.ifCond .ne 5, 3) := by decide +kernel
theorem dX11_pair_39 : decode cX11_pair 39 = .ok (.iconst (-1), 1) := by decide +kernel
theorem dX11_pair_40 : decode cX11_pair 40 = .ok (.ireturn, 1) := by decide +kernel
theorem dX11_pair_41 : decode cX11_pair 41 = .ok (.iconst 0, 1) := by decide +kernel
theorem dX11_pair_42 : decode cX11_pair 42 = .ok (.istore_n 3, 1) := by decide +kernel
theorem dX11_pair_43 : decode cX11_pair 43 = .ok (.iconst 0, 1) := by decide +kernel
theorem dX11_pair_44 : decode cX11_pair 44 = .ok (.istore 4, 2) := by decide +kernel
theorem dX11_pair_46 : decode cX11_pair 46 = .ok (.lconst 0, 1) := by decide +kernel
theorem dX11_pair_47 : decode cX11_pair 47 = .ok (.lstore 5, 2) := by decide +kernel
theorem dX11_pair_49 : decode cX11_pair 49 = .ok (.iload_n 1, 1) := by decide +kernel
theorem dX11_pair_50 : decode cX11_pair 50 = .ok (.iconst 1, 1) := by decide +kernel
theorem dX11_pair_51 : decode cX11_pair 51 = .ok (.iadd, 1) := by decide +kernel
theorem dX11_pair_52 : decode cX11_pair 52 = .ok (.istore 7, 2) := by decide +kernel
theorem dX11_pair_54 : decode cX11_pair 54 = .ok (.iload 7, 2) := by decide +kernel
theorem dX11_pair_56 : decode cX11_pair 56 = .ok (.iload_n 2, 1) := by decide +kernel
theorem dX11_pair_57 : decode cX11_pair 57 = .ok (.if_icmp .gt 74, 3) := by decide +kernel
theorem dX11_pair_60 : decode cX11_pair 60 = .ok (.iload_n 1, 1) := by decide +kernel
theorem dX11_pair_61 : decode cX11_pair 61 = .ok (.istore 8, 2) := by decide +kernel
theorem dX11_pair_63 : decode cX11_pair 63 = .ok (.iload 8, 2) := by decide +kernel
theorem dX11_pair_65 : decode cX11_pair 65 = .ok (.iload 7, 2) := by decide +kernel
theorem dX11_pair_67 : decode cX11_pair 67 = .ok (.if_icmp .ge 58, 3) := by decide +kernel
theorem dX11_pair_70 : decode cX11_pair 70 = .ok (.aload_n 0, 1) := by decide +kernel
theorem dX11_pair_71 : decode cX11_pair 71 = .ok (.iload 8, 2) := by decide +kernel
theorem dX11_pair_73 : decode cX11_pair 73 = .ok (.iload 7, 2) := by decide +kernel
theorem dX11_pair_75 : decode cX11_pair 75 = .ok (.invokevirtual 356, 3) := by decide +kernel
theorem dX11_pair_78 : decode cX11_pair 78 = .ok (.lstore 9, 2) := by decide +kernel
theorem dX11_pair_80 : decode cX11_pair 80 = .ok (.iload 4, 2) := by decide +kernel
theorem dX11_pair_82 : decode cX11_pair 82 = .ok (.ifCond .eq 26, 3) := by decide +kernel
theorem dX11_pair_85 : decode cX11_pair 85 = .ok (.lload 9, 2) := by decide +kernel
theorem dX11_pair_87 : decode cX11_pair 87 = .ok (.iload_n 3, 1) := by decide +kernel
theorem dX11_pair_88 : decode cX11_pair 88 = .ok (.i2l, 1) := by decide +kernel
theorem dX11_pair_89 : decode cX11_pair 89 = .ok (.lmul, 1) := by decide +kernel
theorem dX11_pair_90 : decode cX11_pair 90 = .ok (.iload 4, 2) := by decide +kernel
theorem dX11_pair_92 : decode cX11_pair 92 = .ok (.i2l, 1) := by decide +kernel
theorem dX11_pair_93 : decode cX11_pair 93 = .ok (.lmul, 1) := by decide +kernel
theorem dX11_pair_94 : decode cX11_pair 94 = .ok (.lload 5, 2) := by decide +kernel
theorem dX11_pair_96 : decode cX11_pair 96 = .ok (.iload 8, 2) := by decide +kernel
theorem dX11_pair_98 : decode cX11_pair 98 = .ok (.i2l, 1) := by decide +kernel
theorem dX11_pair_99 : decode cX11_pair 99 = .ok (.lmul, 1) := by decide +kernel
theorem dX11_pair_100 : decode cX11_pair 100 = .ok (.iload 7, 2) := by decide +kernel
theorem dX11_pair_102 : decode cX11_pair 102 = .ok (.i2l, 1) := by decide +kernel
theorem dX11_pair_103 : decode cX11_pair 103 = .ok (.lmul, 1) := by decide +kernel
theorem dX11_pair_104 : decode cX11_pair 104 = .ok (.lcmp, 1) := by decide +kernel
theorem dX11_pair_105 : decode cX11_pair 105 = .ok (.ifCond .lt 14, 3) := by decide +kernel
theorem dX11_pair_108 : decode cX11_pair 108 = .ok (.lload 9, 2) := by decide +kernel
theorem dX11_pair_110 : decode cX11_pair 110 = .ok (.lstore 5, 2) := by decide +kernel
theorem dX11_pair_112 : decode cX11_pair 112 = .ok (.iload 8, 2) := by decide +kernel
theorem dX11_pair_114 : decode cX11_pair 114 = .ok (.istore_n 3, 1) := by decide +kernel
theorem dX11_pair_115 : decode cX11_pair 115 = .ok (.iload 7, 2) := by decide +kernel
theorem dX11_pair_117 : decode cX11_pair 117 = .ok (.istore 4, 2) := by decide +kernel
theorem dX11_pair_119 : decode cX11_pair 119 = .ok (.iinc 8 1, 3) := by decide +kernel
theorem dX11_pair_122 : decode cX11_pair 122 = .ok (.goto (-59), 3) := by decide +kernel
theorem dX11_pair_125 : decode cX11_pair 125 = .ok (.iinc 7 1, 3) := by decide +kernel
theorem dX11_pair_128 : decode cX11_pair 128 = .ok (.goto (-74), 3) := by decide +kernel
theorem dX11_pair_131 : decode cX11_pair 131 = .ok (.sipush 10000, 3) := by decide +kernel
theorem dX11_pair_134 : decode cX11_pair 134 = .ok (.iload 4, 2) := by decide +kernel
theorem dX11_pair_136 : decode cX11_pair 136 = .ok (.imul, 1) := by decide +kernel
theorem dX11_pair_137 : decode cX11_pair 137 = .ok (.iload_n 3, 1) := by decide +kernel
theorem dX11_pair_138 : decode cX11_pair 138 = .ok (.iadd, 1) := by decide +kernel
theorem dX11_pair_139 : decode cX11_pair 139 = .ok (.ireturn, 1) := by decide +kernel
theorem dX11_sum_0 : decode cX11_sum 0 = .ok (.aload_n 0, 1) := by decide +kernel
theorem dX11_sum_1 : decode cX11_sum 1 = .ok (.iconst 0, 1) := by decide +kernel
theorem dX11_sum_2 : decode cX11_sum 2 = .ok (.putfield 130, 3) := by decide +kernel
theorem dX11_sum_5 : decode cX11_sum 5 = .ok (.iload_n 1, 1) := by decide +kernel
theorem dX11_sum_6 : decode cX11_sum 6 = .ok (.invokestatic 314, 3) := by decide +kernel
theorem dX11_sum_9 : decode cX11_sum 9 = .ok (.ifCond .eq 15, 3) := by decide +kernel
theorem dX11_sum_12 : decode cX11_sum 12 = .ok (.iload_n 2, 1) := by decide +kernel
theorem dX11_sum_13 : decode cX11_sum 13 = .ok (.invokestatic 314, 3) := by decide +kernel
theorem dX11_sum_16 : decode cX11_sum 16 = .ok (.ifCond .eq 8, 3) := by decide +kernel
theorem dX11_sum_19 : decode cX11_sum 19 = .ok (.iload_n 1, 1) := by decide +kernel
theorem dX11_sum_20 : decode cX11_sum 20 = .ok (.iload_n 2, 1) := by decide +kernel
theorem dX11_sum_21 : decode cX11_sum 21 = .ok (.if_icmp .lt 7, 3) := by decide +kernel
theorem dX11_sum_24 : decode cX11_sum 24 = .ok (.ldc2_w 360, 3) := by decide +kernel
theorem dX11_sum_27 : decode cX11_sum 27 = .ok (.lreturn, 1) := by decide +kernel
theorem dX11_sum_28 : decode cX11_sum 28 = .ok (.aload_n 0, 1) := by decide +kernel
theorem dX11_sum_29 : decode cX11_sum 29 = .ok (.invokevirtual 311, 3) := by decide +kernel
theorem dX11_sum_32 : decode cX11_sum 32 = .ok (.aload_n 0, 1) := by decide +kernel
theorem dX11_sum_33 : decode cX11_sum 33 = .ok (.iload_n 1, 1) := by decide +kernel
theorem dX11_sum_34 : decode cX11_sum 34 = .ok (.iload_n 2, 1) := by decide +kernel
theorem dX11_sum_35 : decode cX11_sum 35 = .ok (.invokevirtual 356, 3) := by decide +kernel
theorem dX11_sum_38 : decode cX11_sum 38 = .ok (.lreturn, 1) := by decide +kernel
theorem dX11_likely_0 : decode cX11_likely 0 = .ok (.iconst 0, 1) := by decide +kernel
theorem dX11_likely_1 : decode cX11_likely 1 = .ok (.istore_n 2, 1) := by decide +kernel
theorem dX11_likely_2 : decode cX11_likely 2 = .ok (.iconst 0, 1) := by decide +kernel
theorem dX11_likely_3 : decode cX11_likely 3 = .ok (.istore_n 3, 1) := by decide +kernel
theorem dX11_likely_4 : decode cX11_likely 4 = .ok (.iload_n 3, 1) := by decide +kernel
theorem dX11_likely_5 : decode cX11_likely 5 = .ok (.iload_n 0, 1) := by decide +kernel
theorem dX11_likely_6 : decode cX11_likely 6 = .ok (.if_icmp .ge 58, 3) := by decide +kernel
theorem dX11_likely_9 : decode cX11_likely 9 = .ok (.iload_n 3, 1) := by decide +kernel
theorem dX11_likely_10 : decode cX11_likely 10 = .ok (.iload_n 3, 1) := by decide +kernel
theorem dX11_likely_11 : decode cX11_likely 11 = .ok (.iload_n 1, 1) := by decide +kernel
theorem dX11_likely_12 : decode cX11_likely 12 = .ok (.iadd, 1) := by decide +kernel
theorem dX11_likely_13 : decode cX11_likely 13 = .ok (.iconst 0, 1) := by decide +kernel
theorem dX11_likely_14 : decode cX11_likely 14 = .ok (.invokestatic 317, 3) := by decide +kernel
theorem dX11_likely_17 : decode cX11_likely 17 = .ok (.istore 4, 2) := by decide +kernel
theorem dX11_likely_19 : decode cX11_likely 19 = .ok (.iload_n 3, 1) := by decide +kernel
theorem dX11_likely_20 : decode cX11_likely 20 = .ok (.iload_n 3, 1) := by decide +kernel
theorem dX11_likely_21 : decode cX11_likely 21 = .ok (.iload_n 1, 1) := by decide +kernel
theorem dX11_likely_22 : decode cX11_likely 22 = .ok (.iadd, 1) := by decide +kernel
theorem dX11_likely_23 : decode cX11_likely 23 = .ok (.iload_n 0, 1) := by decide +kernel
theorem dX11_likely_24 : decode cX11_likely 24 = .ok (.invokestatic 317, 3) := by decide +kernel
theorem dX11_likely_27 : decode cX11_likely 27 = .ok (.istore 5, 2) := by decide +kernel
theorem dX11_likely_29 : decode cX11_likely 29 = .ok (.iload_n 2, 1) := by decide +kernel
theorem dX11_likely_30 : decode cX11_likely 30 = .ok (.bipush 8, 2) := by decide +kernel
theorem dX11_likely_32 : decode cX11_likely 32 = .ok (.iload 4, 2) := by decide +kernel
theorem dX11_likely_34 : decode cX11_likely 34 = .ok (.iload 5, 2) := by decide +kernel
theorem dX11_likely_36 : decode cX11_likely 36 = .ok (.if_icmp .ge 8, 3) := by decide +kernel
theorem dX11_likely_39 : decode cX11_likely 39 = .ok (.iload 4, 2) := by decide +kernel
theorem dX11_likely_41 : decode cX11_likely 41 = .ok (.goto 5, 3) := by decide +kernel
theorem dX11_likely_44 : decode cX11_likely 44 = .ok (.iload 5, 2) := by decide +kernel
theorem dX11_likely_46 : decode cX11_likely 46 = .ok (.imul, 1) := by decide +kernel
theorem dX11_likely_47 : decode cX11_likely 47 = .ok (.iload_n 0, 1) := by decide +kernel
theorem dX11_likely_48 : decode cX11_likely 48 = .ok (.if_icmp .gt 7, 3) := by decide +kernel
theorem dX11_likely_51 : decode cX11_likely 51 = .ok (.iconst 1, 1) := by decide +kernel
theorem dX11_likely_52 : decode cX11_likely 52 = .ok (.goto 4, 3) := by decide +kernel
theorem dX11_likely_55 : decode cX11_likely 55 = .ok (.iconst 0, 1) := by decide +kernel
theorem dX11_likely_56 : decode cX11_likely 56 = .ok (.iadd, 1) := by decide +kernel
theorem dX11_likely_57 : decode cX11_likely 57 = .ok (.istore_n 2, 1) := by decide +kernel
theorem dX11_likely_58 : decode cX11_likely 58 = .ok (.iinc 3 1, 3) := by decide +kernel
theorem dX11_likely_61 : decode cX11_likely 61 = .ok (.goto (-57), 3) := by decide +kernel
theorem dX11_likely_64 : decode cX11_likely 64 = .ok (.iload_n 2, 1) := by decide +kernel
theorem dX11_likely_65 : decode cX11_likely 65 = .ok (.ireturn, 1) := by decide +kernel
theorem dX11_nearOf_0 : decode cX11_nearOf 0 = .ok (.iconst 0, 1) := by decide +kernel
theorem dX11_nearOf_1 : decode cX11_nearOf 1 = .ok (.istore_n 2, 1) := by decide +kernel
theorem dX11_nearOf_2 : decode cX11_nearOf 2 = .ok (.iconst 0, 1) := by decide +kernel
theorem dX11_nearOf_3 : decode cX11_nearOf 3 = .ok (.istore_n 3, 1) := by decide +kernel
theorem dX11_nearOf_4 : decode cX11_nearOf 4 = .ok (.iload_n 3, 1) := by decide +kernel
theorem dX11_nearOf_5 : decode cX11_nearOf 5 = .ok (.aload_n 0, 1) := by decide +kernel
theorem dX11_nearOf_6 : decode cX11_nearOf 6 = .ok (.getfield 302, 3) := by decide +kernel
theorem dX11_nearOf_9 : decode cX11_nearOf 9 = .ok (.if_icmp .ge 39, 3) := by decide +kernel
theorem dX11_nearOf_12 : decode cX11_nearOf 12 = .ok (.iload_n 2, 1) := by decide +kernel
theorem dX11_nearOf_13 : decode cX11_nearOf 13 = .ok (.aload_n 0, 1) := by decide +kernel
theorem dX11_nearOf_14 : decode cX11_nearOf 14 = .ok (.getfield 114, 3) := by decide +kernel
theorem dX11_nearOf_17 : decode cX11_nearOf 17 = .ok (.iload_n 3, 1) := by decide +kernel
theorem dX11_nearOf_18 : decode cX11_nearOf 18 = .ok (.baload, 1) := by decide +kernel
theorem dX11_nearOf_19 : decode cX11_nearOf 19 = .ok (.ifCond .eq 20, 3) := by decide +kernel
theorem dX11_nearOf_22 : decode cX11_nearOf 22 = .ok (.bipush 8, 2) := by decide +kernel
theorem dX11_nearOf_24 : decode cX11_nearOf 24 = .ok (.aload_n 0, 1) := by decide +kernel
theorem dX11_nearOf_25 : decode cX11_nearOf 25 = .ok (.iload_n 3, 1) := by decide +kernel
theorem dX11_nearOf_26 : decode cX11_nearOf 26 = .ok (.iload_n 1, 1) := by decide +kernel
theorem dX11_nearOf_27 : decode cX11_nearOf 27 = .ok (.invokevirtual 323, 3) := by decide +kernel
theorem dX11_nearOf_30 : decode cX11_nearOf 30 = .ok (.imul, 1) := by decide +kernel
theorem dX11_nearOf_31 : decode cX11_nearOf 31 = .ok (.iload_n 1, 1) := by decide +kernel
theorem dX11_nearOf_32 : decode cX11_nearOf 32 = .ok (.if_icmp .gt 7, 3) := by decide +kernel
theorem dX11_nearOf_35 : decode cX11_nearOf 35 = .ok (.iconst 1, 1) := by decide +kernel
theorem dX11_nearOf_36 : decode cX11_nearOf 36 = .ok (.goto 4, 3) := by decide +kernel
theorem dX11_nearOf_39 : decode cX11_nearOf 39 = .ok (.iconst 0, 1) := by decide +kernel
theorem dX11_nearOf_40 : decode cX11_nearOf 40 = .ok (.iadd, 1) := by decide +kernel
theorem dX11_nearOf_41 : decode cX11_nearOf 41 = .ok (.istore_n 2, 1) := by decide +kernel
theorem dX11_nearOf_42 : decode cX11_nearOf 42 = .ok (.iinc 3 1, 3) := by decide +kernel
theorem dX11_nearOf_45 : decode cX11_nearOf 45 = .ok (.goto (-41), 3) := by decide +kernel
theorem dX11_nearOf_48 : decode cX11_nearOf 48 = .ok (.iload_n 2, 1) := by decide +kernel
theorem dX11_nearOf_49 : decode cX11_nearOf 49 = .ok (.ireturn, 1) := by decide +kernel
theorem dX11_beginChances_0 : decode cX11_beginChances 0 = .ok (.iconst 0, 1) := by decide +kernel
theorem dX11_beginChances_1 : decode cX11_beginChances 1 = .ok (.istore_n 1, 1) := by decide +kernel
theorem dX11_beginChances_2 : decode cX11_beginChances 2 = .ok (.iload_n 1, 1) := by decide +kernel
theorem dX11_beginChances_3 : decode cX11_beginChances 3 = .ok (.bipush 32, 2) := by decide +kernel
theorem dX11_beginChances_5 : decode cX11_beginChances 5 = .ok (.if_icmp .gt 26, 3) := by decide +kernel
theorem dX11_beginChances_8 : decode cX11_beginChances 8 = .ok (.aload_n 0, 1) := by decide +kernel
theorem dX11_beginChances_9 : decode cX11_beginChances 9 = .ok (.getfield 120, 3) := by decide +kernel
theorem dX11_beginChances_12 : decode cX11_beginChances 12 = .ok (.iload_n 1, 1) := by decide +kernel
theorem dX11_beginChances_13 : decode cX11_beginChances 13 = .ok (.iload_n 1, 1) := by decide +kernel
theorem dX11_beginChances_14 : decode cX11_beginChances 14 = .ok (.ifCond .ne 9, 3) := by decide +kernel
theorem dX11_beginChances_17 : decode cX11_beginChances 17 = .ok (.ldc2_w 362, 3) := by decide +kernel
theorem dX11_beginChances_20 : decode cX11_beginChances 20 = .ok (.goto 4, 3) := by decide +kernel
theorem dX11_beginChances_23 : decode cX11_beginChances 23 = .ok (.lconst 0, 1) := by decide +kernel
theorem dX11_beginChances_24 : decode cX11_beginChances 24 = .ok (.lastore, 1) := by decide +kernel
theorem dX11_beginChances_25 : decode cX11_beginChances 25 = .ok (.iinc 1 1, 3) := by decide +kernel
theorem dX11_beginChances_28 : decode cX11_beginChances 28 = .ok (.goto (-26), 3) := by decide +kernel
theorem dX11_beginChances_31 : decode cX11_beginChances 31 = .ok (.return_, 1) := by decide +kernel
theorem dX11_draw_0 : decode cX11_draw 0 = .ok (.bipush 32, 2) := by decide +kernel
theorem dX11_draw_2 : decode cX11_draw 2 = .ok (.istore_n 3, 1) := by decide +kernel
theorem dX11_draw_3 : decode cX11_draw 3 = .ok (.iload_n 3, 1) := by decide +kernel
theorem dX11_draw_4 : decode cX11_draw 4 = .ok (.ifCond .lt 49, 3) := by decide +kernel
theorem dX11_draw_7 : decode cX11_draw 7 = .ok (.aload_n 0, 1) := by decide +kernel
theorem dX11_draw_8 : decode cX11_draw 8 = .ok (.getfield 120, 3) := by decide +kernel
theorem dX11_draw_11 : decode cX11_draw 11 = .ok (.iload_n 3, 1) := by decide +kernel
theorem dX11_draw_12 : decode cX11_draw 12 = .ok (.aload_n 0, 1) := by decide +kernel
theorem dX11_draw_13 : decode cX11_draw 13 = .ok (.getfield 120, 3) := by decide +kernel
theorem dX11_draw_16 : decode cX11_draw 16 = .ok (.iload_n 3, 1) := by decide +kernel
theorem dX11_draw_17 : decode cX11_draw 17 = .ok (.laload, 1) := by decide +kernel
theorem dX11_draw_18 : decode cX11_draw 18 = .ok (.iload_n 2, 1) := by decide +kernel
theorem dX11_draw_19 : decode cX11_draw 19 = .ok (.iload_n 1, 1) := by decide +kernel
theorem dX11_draw_20 : decode cX11_draw 20 = .ok (.isub, 1) := by decide +kernel
theorem dX11_draw_21 : decode cX11_draw 21 = .ok (.i2l, 1) := by decide +kernel
theorem dX11_draw_22 : decode cX11_draw 22 = .ok (.lmul, 1) := by decide +kernel
theorem dX11_draw_23 : decode cX11_draw 23 = .ok (.iload_n 3, 1) := by decide +kernel
theorem dX11_draw_24 : decode cX11_draw 24 = .ok (.ifCond .le 17, 3) := by decide +kernel
theorem dX11_draw_27 : decode cX11_draw 27 = .ok (.aload_n 0, 1) := by decide +kernel
theorem dX11_draw_28 : decode cX11_draw 28 = .ok (.getfield 120, 3) := by decide +kernel
theorem dX11_draw_31 : decode cX11_draw 31 = .ok (.iload_n 3, 1) := by decide +kernel
theorem dX11_draw_32 : decode cX11_draw 32 = .ok (.iconst 1, 1) := by decide +kernel
theorem dX11_draw_33 : decode cX11_draw 33 = .ok (.isub, 1) := by decide +kernel
theorem dX11_draw_34 : decode cX11_draw 34 = .ok (.laload, 1) := by decide +kernel
theorem dX11_draw_35 : decode cX11_draw 35 = .ok (.iload_n 1, 1) := by decide +kernel
theorem dX11_draw_36 : decode cX11_draw 36 = .ok (.i2l, 1) := by decide +kernel
theorem dX11_draw_37 : decode cX11_draw 37 = .ok (.lmul, 1) := by decide +kernel
theorem dX11_draw_38 : decode cX11_draw 38 = .ok (.goto 4, 3) := by decide +kernel
theorem dX11_draw_41 : decode cX11_draw 41 = .ok (.lconst 0, 1) := by decide +kernel
theorem dX11_draw_42 : decode cX11_draw 42 = .ok (.ladd, 1) := by decide +kernel
theorem dX11_draw_43 : decode cX11_draw 43 = .ok (.iload_n 2, 1) := by decide +kernel
theorem dX11_draw_44 : decode cX11_draw 44 = .ok (.i2l, 1) := by decide +kernel
theorem dX11_draw_45 : decode cX11_draw 45 = .ok (.ldiv, 1) := by decide +kernel
theorem dX11_draw_46 : decode cX11_draw 46 = .ok (.lastore, 1) := by decide +kernel
theorem dX11_draw_47 : decode cX11_draw 47 = .ok (.iinc 3 (-1), 3) := by decide +kernel
theorem dX11_draw_50 : decode cX11_draw 50 = .ok (.goto (-47), 3) := by decide +kernel
theorem dX11_draw_53 : decode cX11_draw 53 = .ok (.return_, 1) := by decide +kernel
theorem dX11_chancesFrom_0 : decode cX11_chancesFrom 0 = .ok (.lconst 0, 1) := by decide +kernel
theorem dX11_chancesFrom_1 : decode cX11_chancesFrom 1 = .ok (.lstore_n 2, 1) := by decide +kernel
theorem dX11_chancesFrom_2 : decode cX11_chancesFrom 2 = .ok (.iload_n 1, 1) := by decide +kernel
theorem dX11_chancesFrom_3 : decode cX11_chancesFrom 3 = .ok (.istore 4, 2) := by decide +kernel
theorem dX11_chancesFrom_5 : decode cX11_chancesFrom 5 = .ok (.iload 4, 2) := by decide +kernel
theorem dX11_chancesFrom_7 : decode cX11_chancesFrom 7 = .ok (.bipush 32, 2) := by decide +kernel
theorem dX11_chancesFrom_9 : decode cX11_chancesFrom 9 = .ok (.if_icmp .gt 19, 3) := by decide +kernel
theorem dX11_chancesFrom_12 : decode cX11_chancesFrom 12 = .ok (.lload_n 2, 1) := by decide +kernel
theorem dX11_chancesFrom_13 : decode cX11_chancesFrom 13 = .ok (.aload_n 0, 1) := by decide +kernel
theorem dX11_chancesFrom_14 : decode cX11_chancesFrom 14 = .ok (.getfield 120, 3) := by decide +kernel
theorem dX11_chancesFrom_17 : decode cX11_chancesFrom 17 = .ok (.iload 4, 2) := by decide +kernel
theorem dX11_chancesFrom_19 : decode cX11_chancesFrom 19 = .ok (.laload, 1) := by decide +kernel
theorem dX11_chancesFrom_20 : decode cX11_chancesFrom 20 = .ok (.ladd, 1) := by decide +kernel
theorem dX11_chancesFrom_21 : decode cX11_chancesFrom 21 = .ok (.lstore_n 2, 1) := by decide +kernel
theorem dX11_chancesFrom_22 : decode cX11_chancesFrom 22 = .ok (.iinc 4 1, 3) := by decide +kernel
theorem dX11_chancesFrom_25 : decode cX11_chancesFrom 25 = .ok (.goto (-20), 3) := by decide +kernel
theorem dX11_chancesFrom_28 : decode cX11_chancesFrom 28 = .ok (.lload_n 2, 1) := by decide +kernel
theorem dX11_chancesFrom_29 : decode cX11_chancesFrom 29 = .ok (.lreturn, 1) := by decide +kernel
theorem dX11_chanceOf_0 : decode cX11_chanceOf 0 = .ok (.aload_n 0, 1) := by decide +kernel
theorem dX11_chanceOf_1 : decode cX11_chanceOf 1 = .ok (.invokevirtual 364, 3) := by decide +kernel
theorem dX11_chanceOf_4 : decode cX11_chanceOf 4 = .ok (.iconst 0, 1) := by decide +kernel
theorem dX11_chanceOf_5 : decode cX11_chanceOf 5 = .ok (.istore_n 2, 1) := by decide +kernel
theorem dX11_chanceOf_6 : decode cX11_chanceOf 6 = .ok (.iload_n 2, 1) := by decide +kernel
theorem dX11_chanceOf_7 : decode cX11_chanceOf 7 = .ok (.aload_n 0, 1) := by decide +kernel
theorem dX11_chanceOf_8 : decode cX11_chanceOf 8 = .ok (.getfield 302, 3) := by decide +kernel
theorem dX11_chanceOf_11 : decode cX11_chanceOf 11 = .ok (.if_icmp .ge 40, 3) := by decide +kernel
theorem dX11_chanceOf_14 : decode cX11_chanceOf 14 = .ok (.aload_n 0, 1) := by decide +kernel
theorem dX11_chanceOf_15 : decode cX11_chanceOf 15 = .ok (.getfield 114, 3) := by decide +kernel
theorem dX11_chanceOf_18 : decode cX11_chanceOf 18 = .ok (.iload_n 2, 1) := by decide +kernel
theorem dX11_chanceOf_19 : decode cX11_chanceOf 19 = .ok (.baload, 1) := by decide +kernel
theorem dX11_chanceOf_20 : decode cX11_chanceOf 20 = .ok (.ifCond .eq 25, 3) := by decide +kernel
theorem dX11_chanceOf_23 : decode cX11_chanceOf 23 = .ok (.aload_n 0, 1) := by decide +kernel
theorem dX11_chanceOf_24 : decode cX11_chanceOf 24 = .ok (.iload_n 1, 1) := by decide +kernel
theorem dX11_chanceOf_25 : decode cX11_chanceOf 25 = .ok (.aload_n 0, 1) := by decide +kernel
theorem dX11_chanceOf_26 : decode cX11_chanceOf 26 = .ok (.getfield 111, 3) := by decide +kernel
theorem dX11_chanceOf_29 : decode cX11_chanceOf 29 = .ok (.iload_n 2, 1) := by decide +kernel
theorem dX11_chanceOf_30 : decode cX11_chanceOf 30 = .ok (.iaload, 1) := by decide +kernel
theorem dX11_chanceOf_31 : decode cX11_chanceOf 31 = .ok (.aload_n 0, 1) := by decide +kernel
theorem dX11_chanceOf_32 : decode cX11_chanceOf 32 = .ok (.getfield 108, 3) := by decide +kernel
theorem dX11_chanceOf_35 : decode cX11_chanceOf 35 = .ok (.iload_n 2, 1) := by decide +kernel
theorem dX11_chanceOf_36 : decode cX11_chanceOf 36 = .ok (.iaload, 1) := by decide +kernel
theorem dX11_chanceOf_37 : decode cX11_chanceOf 37 = .ok (.isub, 1) := by decide +kernel
theorem dX11_chanceOf_38 : decode cX11_chanceOf 38 = .ok (.invokestatic 367, 3) := by decide +kernel
theorem dX11_chanceOf_41 : decode cX11_chanceOf 41 = .ok (.iload_n 1, 1) := by decide +kernel
theorem dX11_chanceOf_42 : decode cX11_chanceOf 42 = .ok (.invokevirtual 370, 3) := by decide +kernel
theorem dX11_chanceOf_45 : decode cX11_chanceOf 45 = .ok (.iinc 2 1, 3) := by decide +kernel
theorem dX11_chanceOf_48 : decode cX11_chanceOf 48 = .ok (.goto (-42), 3) := by decide +kernel
theorem dX11_chanceOf_51 : decode cX11_chanceOf 51 = .ok (.aload_n 0, 1) := by decide +kernel
theorem dX11_chanceOf_52 : decode cX11_chanceOf 52 = .ok (.aload_n 0, 1) := by decide +kernel
theorem dX11_chanceOf_53 : decode cX11_chanceOf 53 = .ok (.iload_n 1, 1) := by decide +kernel
theorem dX11_chanceOf_54 : decode cX11_chanceOf 54 = .ok (.invokevirtual 373, 3) := by decide +kernel
theorem dX11_chanceOf_57 : decode cX11_chanceOf 57 = .ok (.invokevirtual 376, 3) := by decide +kernel
theorem dX11_chanceOf_60 : decode cX11_chanceOf 60 = .ok (.lreturn, 1) := by decide +kernel
theorem dX11_chance_0 : decode cX11_chance 0 = .ok (.aload_n 0, 1) := by decide +kernel
theorem dX11_chance_1 : decode cX11_chance 1 = .ok (.iconst 0, 1) := by decide +kernel
theorem dX11_chance_2 : decode cX11_chance 2 = .ok (.putfield 130, 3) := by decide +kernel
theorem dX11_chance_5 : decode cX11_chance 5 = .ok (.iload_n 1, 1) := by decide +kernel
theorem dX11_chance_6 : decode cX11_chance 6 = .ok (.invokestatic 314, 3) := by decide +kernel
theorem dX11_chance_9 : decode cX11_chance 9 = .ok (.ifCond .ne 5, 3) := by decide +kernel
theorem dX11_chance_12 : decode cX11_chance 12 = .ok (.iconst (-1), 1) := by decide +kernel
theorem dX11_chance_13 : decode cX11_chance 13 = .ok (.ireturn, 1) := by decide +kernel
theorem dX11_chance_14 : decode cX11_chance 14 = .ok (.aload_n 0, 1) := by decide +kernel
theorem dX11_chance_15 : decode cX11_chance 15 = .ok (.invokevirtual 311, 3) := by decide +kernel
theorem dX11_chance_18 : decode cX11_chance 18 = .ok (.aload_n 0, 1) := by decide +kernel
theorem dX11_chance_19 : decode cX11_chance 19 = .ok (.iload_n 1, 1) := by decide +kernel
theorem dX11_chance_20 : decode cX11_chance 20 = .ok (.invokevirtual 380, 3) := by decide +kernel
theorem dX11_chance_23 : decode cX11_chance 23 = .ok (.l2i, 1) := by decide +kernel
theorem dX11_chance_24 : decode cX11_chance 24 = .ok (.ireturn, 1) := by decide +kernel
theorem dX11_thousands_0 : decode cX11_thousands 0 = .ok (.lload_n 0, 1) := by decide +kernel
theorem dX11_thousands_1 : decode cX11_thousands 1 = .ok (.ldc2_w 383, 3) := by decide +kernel
theorem dX11_thousands_4 : decode cX11_thousands 4 = .ok (.ldiv, 1) := by decide +kernel
theorem dX11_thousands_5 : decode cX11_thousands 5 = .ok (.lstore_n 2, 1) := by decide +kernel
theorem dX11_thousands_6 : decode cX11_thousands 6 = .ok (.lload_n 2, 1) := by decide +kernel
theorem dX11_thousands_7 : decode cX11_thousands 7 = .ok (.ldc2_w 385, 3) := by decide +kernel
theorem dX11_thousands_10 : decode cX11_thousands 10 = .ok (.lcmp, 1) := by decide +kernel
theorem dX11_thousands_11 : decode cX11_thousands 11 = .ok (.ifCond .le 9, 3) := by decide +kernel
theorem dX11_thousands_14 : decode cX11_thousands 14 = .ok (.sipush 9999, 3) := by decide +kernel
theorem dX11_thousands_17 : decode cX11_thousands 17 = .ok (.goto 5, 3) := by decide +kernel
theorem dX11_thousands_20 : decode cX11_thousands 20 = .ok (.lload_n 2, 1) := by decide +kernel
theorem dX11_thousands_21 : decode cX11_thousands 21 = .ok (.l2i, 1) := by decide +kernel
theorem dX11_thousands_22 : decode cX11_thousands 22 = .ok (.ireturn, 1) := by decide +kernel
theorem dX11_findProof_0 : decode cX11_findProof 0 = .ok (.aload_n 0, 1) := by decide +kernel
theorem dX11_findProof_1 : decode cX11_findProof 1 = .ok (.invokevirtual 344, 3) := by decide +kernel
theorem dX11_findProof_4 : decode cX11_findProof 4 = .ok (.istore 4, 2) := by decide +kernel
theorem dX11_findProof_6 : decode cX11_findProof 6 = .ok (.aload_n 0, 1) := by decide +kernel
theorem dX11_findProof_7 : decode cX11_findProof 7 = .ok (.iload_n 1, 1) := by decide +kernel
theorem dX11_findProof_8 : decode cX11_findProof 8 = .ok (.invokevirtual 380, 3) := by decide +kernel
theorem dX11_findProof_11 : decode cX11_findProof 11 = .ok (.lstore 5, 2) := by decide +kernel
theorem dX11_findProof_13 : decode cX11_findProof 13 = .ok (.lload 5, 2) := by decide +kernel
theorem dX11_findProof_15 : decode cX11_findProof 15 = .ok (.iload_n 3, 1) := by decide +kernel
theorem dX11_findProof_16 : decode cX11_findProof 16 = .ok (.iload_n 2, 1) := by decide +kernel
theorem dX11_findProof_17 : decode cX11_findProof 17 = .ok (.isub, 1) := by decide +kernel
theorem dX11_findProof_18 : decode cX11_findProof 18 = .ok (.iconst 1, 1) := by decide +kernel
theorem dX11_findProof_19 : decode cX11_findProof 19 = .ok (.iadd, 1) := by decide +kernel
theorem dX11_findProof_20 : decode cX11_findProof 20 = .ok (.i2l, 1) := by decide +kernel
theorem dX11_findProof_21 : decode cX11_findProof 21 = .ok (.lmul, 1) := by decide +kernel
theorem dX11_findProof_22 : decode cX11_findProof 22 = .ok (.lstore 7, 2) := by decide +kernel
theorem dX11_findProof_24 : decode cX11_findProof 24 = .ok (.iconst 0, 1) := by decide +kernel
theorem dX11_findProof_25 : decode cX11_findProof 25 = .ok (.istore 9, 2) := by decide +kernel
theorem dX11_findProof_27 : decode cX11_findProof 27 = .ok (.iconst 0, 1) := by decide +kernel
theorem dX11_findProof_28 : decode cX11_findProof 28 = .ok (.istore 10, 2) := by decide +kernel
theorem dX11_findProof_30 : decode cX11_findProof 30 = .ok (.iconst 0, 1) := by decide +kernel
theorem dX11_findProof_31 : decode cX11_findProof 31 = .ok (.istore 11, 2) := by decide +kernel
theorem dX11_findProof_33 : decode cX11_findProof 33 = .ok (.iload 11, 2) := by decide +kernel
theorem dX11_findProof_35 : decode cX11_findProof 35 = .ok (.aload_n 0, 1) := by decide +kernel
theorem dX11_findProof_36 : decode cX11_findProof 36 = .ok (.getfield 302, 3) := by decide +kernel
theorem dX11_findProof_39 : decode cX11_findProof 39 = .ok (.if_icmp .ge 68, 3) := by decide +kernel
theorem dX11_findProof_42 : decode cX11_findProof 42 = .ok (.aload_n 0, 1) := by decide +kernel
theorem dX11_findProof_43 : decode cX11_findProof 43 = .ok (.getfield 114, 3) := by decide +kernel
theorem dX11_findProof_46 : decode cX11_findProof 46 = .ok (.iload 11, 2) := by decide +kernel
theorem dX11_findProof_48 : decode cX11_findProof 48 = .ok (.baload, 1) := by decide +kernel
theorem dX11_findProof_49 : decode cX11_findProof 49 = .ok (.ifCond .eq 52, 3) := by decide +kernel
theorem dX11_findProof_52 : decode cX11_findProof 52 = .ok (.bipush 8, 2) := by decide +kernel
theorem dX11_findProof_54 : decode cX11_findProof 54 = .ok (.aload_n 0, 1) := by decide +kernel
theorem dX11_findProof_55 : decode cX11_findProof 55 = .ok (.iload 11, 2) := by decide +kernel
theorem dX11_findProof_57 : decode cX11_findProof 57 = .ok (.iload_n 1, 1) := by decide +kernel
theorem dX11_findProof_58 : decode cX11_findProof 58 = .ok (.invokevirtual 323, 3) := by decide +kernel
theorem dX11_findProof_61 : decode cX11_findProof 61 = .ok (.imul, 1) := by decide +kernel
theorem dX11_findProof_62 : decode cX11_findProof 62 = .ok (.iload_n 1, 1) := by decide +kernel
theorem dX11_findProof_63 : decode cX11_findProof 63 = .ok (.if_icmp .gt 38, 3) := by decide +kernel
theorem dX11_findProof_66 : decode cX11_findProof 66 = .ok (.iload 9, 2) := by decide +kernel
theorem dX11_findProof_68 : decode cX11_findProof 68 = .ok (.iconst 1, 1) := by decide +kernel
theorem dX11_findProof_69 : decode cX11_findProof 69 = .ok (.aload_n 0, 1) := by decide +kernel
theorem dX11_findProof_70 : decode cX11_findProof 70 = .ok (.iload 11, 2) := by decide +kernel
theorem dX11_findProof_72 : decode cX11_findProof 72 = .ok (.iconst 4, 1) := by decide +kernel
theorem dX11_findProof_73 : decode cX11_findProof 73 = .ok (.invokevirtual 291, 3) := by decide +kernel
theorem dX11_findProof_76 : decode cX11_findProof 76 = .ok (.ishl, 1) := by decide +kernel
theorem dX11_findProof_77 : decode cX11_findProof 77 = .ok (.ior, 1) := by decide +kernel
theorem dX11_findProof_78 : decode cX11_findProof 78 = .ok (.istore 9, 2) := by decide +kernel
theorem dX11_findProof_80 : decode cX11_findProof 80 = .ok (.iload 10, 2) := by decide +kernel
end
section
theorem dX11_findProof_82 : decode cX11_findProof 82 = .ok (.aload_n 0, 1) := by decide +kernel
theorem dX11_findProof_83 : decode cX11_findProof 83 = .ok (.iload 11, 2) := by decide +kernel
theorem dX11_findProof_85 : decode cX11_findProof 85 = .ok (.bipush 7, 2) := by decide +kernel
theorem dX11_findProof_87 : decode cX11_findProof 87 = .ok (.invokevirtual 291, 3) := by decide +kernel
theorem dX11_findProof_90 : decode cX11_findProof 90 = .ok (.ifCond .le 7, 3) := by decide +kernel
theorem dX11_findProof_93 : decode cX11_findProof 93 = .ok (.iconst 1, 1) := by decide +kernel
theorem dX11_findProof_94 : decode cX11_findProof 94 = .ok (.goto 4, 3) := by decide +kernel
theorem dX11_findProof_97 : decode cX11_findProof 97 = .ok (.iconst 0, 1) := by decide +kernel
theorem dX11_findProof_98 : decode cX11_findProof 98 = .ok (.iadd, 1) := by decide +kernel
theorem dX11_findProof_99 : decode cX11_findProof 99 = .ok (.istore 10, 2) := by decide +kernel
theorem dX11_findProof_101 : decode cX11_findProof 101 = .ok (.iinc 11 1, 3) := by decide +kernel
theorem dX11_findProof_104 : decode cX11_findProof 104 = .ok (.goto (-71), 3) := by decide +kernel
theorem dX11_findProof_107 : decode cX11_findProof 107 = .ok (.iconst 0, 1) := by decide +kernel
theorem dX11_findProof_108 : decode cX11_findProof 108 = .ok (.istore 11, 2) := by decide +kernel
theorem dX11_findProof_110 : decode cX11_findProof 110 = .ok (.iconst 0, 1) := by decide +kernel
theorem dX11_findProof_111 : decode cX11_findProof 111 = .ok (.istore 12, 2) := by decide +kernel
theorem dX11_findProof_113 : decode cX11_findProof 113 = .ok (.iload 12, 2) := by decide +kernel
theorem dX11_findProof_115 : decode cX11_findProof 115 = .ok (.bipush 6, 2) := by decide +kernel
theorem dX11_findProof_117 : decode cX11_findProof 117 = .ok (.if_icmp .ge 21, 3) := by decide +kernel
theorem dX11_findProof_120 : decode cX11_findProof 120 = .ok (.iload 11, 2) := by decide +kernel
theorem dX11_findProof_122 : decode cX11_findProof 122 = .ok (.iload 9, 2) := by decide +kernel
theorem dX11_findProof_124 : decode cX11_findProof 124 = .ok (.iload 12, 2) := by decide +kernel
theorem dX11_findProof_126 : decode cX11_findProof 126 = .ok (.ishr, 1) := by decide +kernel
theorem dX11_findProof_127 : decode cX11_findProof 127 = .ok (.iconst 1, 1) := by decide +kernel
theorem dX11_findProof_128 : decode cX11_findProof 128 = .ok (.iand, 1) := by decide +kernel
theorem dX11_findProof_129 : decode cX11_findProof 129 = .ok (.iadd, 1) := by decide +kernel
theorem dX11_findProof_130 : decode cX11_findProof 130 = .ok (.istore 11, 2) := by decide +kernel
theorem dX11_findProof_132 : decode cX11_findProof 132 = .ok (.iinc 12 1, 3) := by decide +kernel
theorem dX11_findProof_135 : decode cX11_findProof 135 = .ok (.goto (-22), 3) := by decide +kernel
theorem dX11_findProof_138 : decode cX11_findProof 138 = .ok (.aload_n 0, 1) := by decide +kernel
theorem dX11_findProof_139 : decode cX11_findProof 139 = .ok (.iload_n 2, 1) := by decide +kernel
theorem dX11_findProof_140 : decode cX11_findProof 140 = .ok (.iload_n 3, 1) := by decide +kernel
theorem dX11_findProof_141 : decode cX11_findProof 141 = .ok (.invokevirtual 333, 3) := by decide +kernel
theorem dX11_findProof_144 : decode cX11_findProof 144 = .ok (.aload_n 0, 1) := by decide +kernel
theorem dX11_findProof_145 : decode cX11_findProof 145 = .ok (.getfield 98, 3) := by decide +kernel
theorem dX11_findProof_148 : decode cX11_findProof 148 = .ok (.iconst 0, 1) := by decide +kernel
theorem dX11_findProof_149 : decode cX11_findProof 149 = .ok (.iload 4, 2) := by decide +kernel
theorem dX11_findProof_151 : decode cX11_findProof 151 = .ok (.iastore, 1) := by decide +kernel
theorem dX11_findProof_152 : decode cX11_findProof 152 = .ok (.aload_n 0, 1) := by decide +kernel
theorem dX11_findProof_153 : decode cX11_findProof 153 = .ok (.getfield 98, 3) := by decide +kernel
theorem dX11_findProof_156 : decode cX11_findProof 156 = .ok (.iconst 1, 1) := by decide +kernel
theorem dX11_findProof_157 : decode cX11_findProof 157 = .ok (.aload_n 0, 1) := by decide +kernel
theorem dX11_findProof_158 : decode cX11_findProof 158 = .ok (.iload_n 1, 1) := by decide +kernel
theorem dX11_findProof_159 : decode cX11_findProof 159 = .ok (.invokevirtual 373, 3) := by decide +kernel
theorem dX11_findProof_162 : decode cX11_findProof 162 = .ok (.iastore, 1) := by decide +kernel
theorem dX11_findProof_163 : decode cX11_findProof 163 = .ok (.aload_n 0, 1) := by decide +kernel
theorem dX11_findProof_164 : decode cX11_findProof 164 = .ok (.getfield 98, 3) := by decide +kernel
theorem dX11_findProof_167 : decode cX11_findProof 167 = .ok (.iconst 2, 1) := by decide +kernel
theorem dX11_findProof_168 : decode cX11_findProof 168 = .ok (.iload 4, 2) := by decide +kernel
theorem dX11_findProof_170 : decode cX11_findProof 170 = .ok (.ifCond .ne 7, 3) := by decide +kernel
theorem dX11_findProof_173 : decode cX11_findProof 173 = .ok (.iconst 0, 1) := by decide +kernel
theorem dX11_findProof_174 : decode cX11_findProof 174 = .ok (.goto 24, 3) := by decide +kernel
theorem dX11_findProof_177 : decode cX11_findProof 177 = .ok (.ldc2_w 383, 3) := by decide +kernel
theorem dX11_findProof_180 : decode cX11_findProof 180 = .ok (.aload_n 0, 1) := by decide +kernel
theorem dX11_findProof_181 : decode cX11_findProof 181 = .ok (.getfield 117, 3) := by decide +kernel
theorem dX11_findProof_184 : decode cX11_findProof 184 = .ok (.iload_n 1, 1) := by decide +kernel
theorem dX11_findProof_185 : decode cX11_findProof 185 = .ok (.iload_n 2, 1) := by decide +kernel
theorem dX11_findProof_186 : decode cX11_findProof 186 = .ok (.isub, 1) := by decide +kernel
theorem dX11_findProof_187 : decode cX11_findProof 187 = .ok (.iaload, 1) := by decide +kernel
theorem dX11_findProof_188 : decode cX11_findProof 188 = .ok (.i2l, 1) := by decide +kernel
theorem dX11_findProof_189 : decode cX11_findProof 189 = .ok (.lmul, 1) := by decide +kernel
theorem dX11_findProof_190 : decode cX11_findProof 190 = .ok (.iload_n 1, 1) := by decide +kernel
theorem dX11_findProof_191 : decode cX11_findProof 191 = .ok (.i2l, 1) := by decide +kernel
theorem dX11_findProof_192 : decode cX11_findProof 192 = .ok (.iload 4, 2) := by decide +kernel
theorem dX11_findProof_194 : decode cX11_findProof 194 = .ok (.i2l, 1) := by decide +kernel
theorem dX11_findProof_195 : decode cX11_findProof 195 = .ok (.lmul, 1) := by decide +kernel
theorem dX11_findProof_196 : decode cX11_findProof 196 = .ok (.ldiv, 1) := by decide +kernel
theorem dX11_findProof_197 : decode cX11_findProof 197 = .ok (.l2i, 1) := by decide +kernel
theorem dX11_findProof_198 : decode cX11_findProof 198 = .ok (.iastore, 1) := by decide +kernel
theorem dX11_findProof_199 : decode cX11_findProof 199 = .ok (.aload_n 0, 1) := by decide +kernel
theorem dX11_findProof_200 : decode cX11_findProof 200 = .ok (.getfield 98, 3) := by decide +kernel
theorem dX11_findProof_203 : decode cX11_findProof 203 = .ok (.iconst 3, 1) := by decide +kernel
theorem dX11_findProof_204 : decode cX11_findProof 204 = .ok (.lload 5, 2) := by decide +kernel
theorem dX11_findProof_206 : decode cX11_findProof 206 = .ok (.invokestatic 387, 3) := by decide +kernel
theorem dX11_findProof_209 : decode cX11_findProof 209 = .ok (.iastore, 1) := by decide +kernel
theorem dX11_findProof_210 : decode cX11_findProof 210 = .ok (.aload_n 0, 1) := by decide +kernel
theorem dX11_findProof_211 : decode cX11_findProof 211 = .ok (.getfield 98, 3) := by decide +kernel
theorem dX11_findProof_214 : decode cX11_findProof 214 = .ok (.iconst 4, 1) := by decide +kernel
theorem dX11_findProof_215 : decode cX11_findProof 215 = .ok (.lload 7, 2) := by decide +kernel
theorem dX11_findProof_217 : decode cX11_findProof 217 = .ok (.ldc2_w 362, 3) := by decide +kernel
theorem dX11_findProof_220 : decode cX11_findProof 220 = .ok (.lcmp, 1) := by decide +kernel
theorem dX11_findProof_221 : decode cX11_findProof 221 = .ok (.ifCond .le 9, 3) := by decide +kernel
theorem dX11_findProof_224 : decode cX11_findProof 224 = .ok (.ldc2_w 362, 3) := by decide +kernel
theorem dX11_findProof_227 : decode cX11_findProof 227 = .ok (.goto 5, 3) := by decide +kernel
theorem dX11_findProof_230 : decode cX11_findProof 230 = .ok (.lload 7, 2) := by decide +kernel
theorem dX11_findProof_232 : decode cX11_findProof 232 = .ok (.invokestatic 387, 3) := by decide +kernel
theorem dX11_findProof_235 : decode cX11_findProof 235 = .ok (.iastore, 1) := by decide +kernel
theorem dX11_findProof_236 : decode cX11_findProof 236 = .ok (.aload_n 0, 1) := by decide +kernel
theorem dX11_findProof_237 : decode cX11_findProof 237 = .ok (.getfield 98, 3) := by decide +kernel
theorem dX11_findProof_240 : decode cX11_findProof 240 = .ok (.iconst 5, 1) := by decide +kernel
theorem dX11_findProof_241 : decode cX11_findProof 241 = .ok (.iload 4, 2) := by decide +kernel
theorem dX11_findProof_243 : decode cX11_findProof 243 = .ok (.ifCond .ne 9, 3) := by decide +kernel
theorem dX11_findProof_246 : decode cX11_findProof 246 = .ok (.sipush 9999, 3) := by decide +kernel
theorem dX11_findProof_249 : decode cX11_findProof 249 = .ok (.goto 10, 3) := by decide +kernel
theorem dX11_findProof_252 : decode cX11_findProof 252 = .ok (.aload_n 0, 1) := by decide +kernel
theorem dX11_findProof_253 : decode cX11_findProof 253 = .ok (.iload_n 2, 1) := by decide +kernel
theorem dX11_findProof_254 : decode cX11_findProof 254 = .ok (.iload_n 3, 1) := by decide +kernel
theorem dX11_findProof_255 : decode cX11_findProof 255 = .ok (.iload_n 1, 1) := by decide +kernel
theorem dX11_findProof_256 : decode cX11_findProof 256 = .ok (.invokevirtual 353, 3) := by decide +kernel
theorem dX11_findProof_259 : decode cX11_findProof 259 = .ok (.iastore, 1) := by decide +kernel
theorem dX11_findProof_260 : decode cX11_findProof 260 = .ok (.aload_n 0, 1) := by decide +kernel
theorem dX11_findProof_261 : decode cX11_findProof 261 = .ok (.getfield 98, 3) := by decide +kernel
theorem dX11_findProof_264 : decode cX11_findProof 264 = .ok (.bipush 6, 2) := by decide +kernel
theorem dX11_findProof_266 : decode cX11_findProof 266 = .ok (.iload 11, 2) := by decide +kernel
theorem dX11_findProof_268 : decode cX11_findProof 268 = .ok (.iastore, 1) := by decide +kernel
theorem dX11_findProof_269 : decode cX11_findProof 269 = .ok (.aload_n 0, 1) := by decide +kernel
theorem dX11_findProof_270 : decode cX11_findProof 270 = .ok (.getfield 98, 3) := by decide +kernel
theorem dX11_findProof_273 : decode cX11_findProof 273 = .ok (.bipush 7, 2) := by decide +kernel
theorem dX11_findProof_275 : decode cX11_findProof 275 = .ok (.iload 10, 2) := by decide +kernel
theorem dX11_findProof_277 : decode cX11_findProof 277 = .ok (.iastore, 1) := by decide +kernel
theorem dX11_findProof_278 : decode cX11_findProof 278 = .ok (.return_, 1) := by decide +kernel
theorem dX11_verdict_0 : decode cX11_verdict 0 = .ok (.aload_n 0, 1) := by decide +kernel
theorem dX11_verdict_1 : decode cX11_verdict 1 = .ok (.iconst 0, 1) := by decide +kernel
theorem dX11_verdict_2 : decode cX11_verdict 2 = .ok (.putfield 130, 3) := by decide +kernel
theorem dX11_verdict_5 : decode cX11_verdict 5 = .ok (.iload_n 2, 1) := by decide +kernel
theorem dX11_verdict_6 : decode cX11_verdict 6 = .ok (.iload_n 3, 1) := by decide +kernel
theorem dX11_verdict_7 : decode cX11_verdict 7 = .ok (.invokestatic 340, 3) := by decide +kernel
theorem dX11_verdict_10 : decode cX11_verdict 10 = .ok (.ifCond .eq 12, 3) := by decide +kernel
theorem dX11_verdict_13 : decode cX11_verdict 13 = .ok (.iload_n 1, 1) := by decide +kernel
theorem dX11_verdict_14 : decode cX11_verdict 14 = .ok (.iload_n 2, 1) := by decide +kernel
theorem dX11_verdict_15 : decode cX11_verdict 15 = .ok (.iload_n 3, 1) := by decide +kernel
theorem dX11_verdict_16 : decode cX11_verdict 16 = .ok (.invokestatic 138, 3) := by decide +kernel
theorem dX11_verdict_19 : decode cX11_verdict 19 = .ok (.ifCond .ne 5, 3) := by decide +kernel
theorem dX11_verdict_22 : decode cX11_verdict 22 = .ok (.iconst (-1), 1) := by decide +kernel
theorem dX11_verdict_23 : decode cX11_verdict 23 = .ok (.ireturn, 1) := by decide +kernel
theorem dX11_verdict_24 : decode cX11_verdict 24 = .ok (.aload_n 0, 1) := by decide +kernel
theorem dX11_verdict_25 : decode cX11_verdict 25 = .ok (.invokevirtual 311, 3) := by decide +kernel
theorem dX11_verdict_28 : decode cX11_verdict 28 = .ok (.aload_n 0, 1) := by decide +kernel
theorem dX11_verdict_29 : decode cX11_verdict 29 = .ok (.iload_n 1, 1) := by decide +kernel
theorem dX11_verdict_30 : decode cX11_verdict 30 = .ok (.iload_n 2, 1) := by decide +kernel
theorem dX11_verdict_31 : decode cX11_verdict 31 = .ok (.iload_n 3, 1) := by decide +kernel
theorem dX11_verdict_32 : decode cX11_verdict 32 = .ok (.invokevirtual 391, 3) := by decide +kernel
theorem dX11_verdict_35 : decode cX11_verdict 35 = .ok (.iconst 0, 1) := by decide +kernel
theorem dX11_verdict_36 : decode cX11_verdict 36 = .ok (.istore 4, 2) := by decide +kernel
theorem dX11_verdict_38 : decode cX11_verdict 38 = .ok (.iload 4, 2) := by decide +kernel
theorem dX11_verdict_40 : decode cX11_verdict 40 = .ok (.aload_n 0, 1) := by decide +kernel
theorem dX11_verdict_41 : decode cX11_verdict 41 = .ok (.getfield 53, 3) := by decide +kernel
theorem dX11_verdict_44 : decode cX11_verdict 44 = .ok (.iconst 1, 1) := by decide +kernel
theorem dX11_verdict_45 : decode cX11_verdict 45 = .ok (.iaload, 1) := by decide +kernel
theorem dX11_verdict_46 : decode cX11_verdict 46 = .ok (.if_icmp .ge 32, 3) := by decide +kernel
theorem dX11_verdict_49 : decode cX11_verdict 49 = .ok (.aload_n 0, 1) := by decide +kernel
theorem dX11_verdict_50 : decode cX11_verdict 50 = .ok (.bipush 16, 2) := by decide +kernel
theorem dX11_verdict_52 : decode cX11_verdict 52 = .ok (.iload 4, 2) := by decide +kernel
theorem dX11_verdict_54 : decode cX11_verdict 54 = .ok (.iadd, 1) := by decide +kernel
theorem dX11_verdict_55 : decode cX11_verdict 55 = .ok (.invokevirtual 295, 3) := by decide +kernel
theorem dX11_verdict_58 : decode cX11_verdict 58 = .ok (.ifCond .eq 14, 3) := by decide +kernel
theorem dX11_verdict_61 : decode cX11_verdict 61 = .ok (.aload_n 0, 1) := by decide +kernel
theorem dX11_verdict_62 : decode cX11_verdict 62 = .ok (.getfield 68, 3) := by decide +kernel
theorem dX11_verdict_65 : decode cX11_verdict 65 = .ok (.bipush 16, 2) := by decide +kernel
theorem dX11_verdict_67 : decode cX11_verdict 67 = .ok (.iload 4, 2) := by decide +kernel
theorem dX11_verdict_69 : decode cX11_verdict 69 = .ok (.iadd, 1) := by decide +kernel
theorem dX11_verdict_70 : decode cX11_verdict 70 = .ok (.iaload, 1) := by decide +kernel
theorem dX11_verdict_71 : decode cX11_verdict 71 = .ok (.ireturn, 1) := by decide +kernel
theorem dX11_verdict_72 : decode cX11_verdict 72 = .ok (.iinc 4 1, 3) := by decide +kernel
theorem dX11_verdict_75 : decode cX11_verdict 75 = .ok (.goto (-37), 3) := by decide +kernel
theorem dX11_verdict_78 : decode cX11_verdict 78 = .ok (.iconst 2, 1) := by decide +kernel
theorem dX11_verdict_79 : decode cX11_verdict 79 = .ok (.ireturn, 1) := by decide +kernel
theorem dX11_isOfSet_0 : decode cX11_isOfSet 0 = .ok (.aload_n 0, 1) := by decide +kernel
theorem dX11_isOfSet_1 : decode cX11_isOfSet 1 = .ok (.getfield 101, 3) := by decide +kernel
theorem dX11_isOfSet_4 : decode cX11_isOfSet 4 = .ok (.iload_n 1, 1) := by decide +kernel
theorem dX11_isOfSet_5 : decode cX11_isOfSet 5 = .ok (.baload, 1) := by decide +kernel
theorem dX11_isOfSet_6 : decode cX11_isOfSet 6 = .ok (.ifCond .eq 29, 3) := by decide +kernel
theorem dX11_isOfSet_9 : decode cX11_isOfSet 9 = .ok (.aload_n 0, 1) := by decide +kernel
theorem dX11_isOfSet_10 : decode cX11_isOfSet 10 = .ok (.iload_n 1, 1) := by decide +kernel
theorem dX11_isOfSet_11 : decode cX11_isOfSet 11 = .ok (.bipush 9, 2) := by decide +kernel
theorem dX11_isOfSet_13 : decode cX11_isOfSet 13 = .ok (.invokevirtual 291, 3) := by decide +kernel
theorem dX11_isOfSet_16 : decode cX11_isOfSet 16 = .ok (.iconst 1, 1) := by decide +kernel
theorem dX11_isOfSet_17 : decode cX11_isOfSet 17 = .ok (.if_icmp .ne 18, 3) := by decide +kernel
theorem dX11_isOfSet_20 : decode cX11_isOfSet 20 = .ok (.aload_n 0, 1) := by decide +kernel
theorem dX11_isOfSet_21 : decode cX11_isOfSet 21 = .ok (.iload_n 1, 1) := by decide +kernel
theorem dX11_isOfSet_22 : decode cX11_isOfSet 22 = .ok (.bipush 10, 2) := by decide +kernel
theorem dX11_isOfSet_24 : decode cX11_isOfSet 24 = .ok (.invokevirtual 291, 3) := by decide +kernel
theorem dX11_isOfSet_27 : decode cX11_isOfSet 27 = .ok (.iload_n 2, 1) := by decide +kernel
theorem dX11_isOfSet_28 : decode cX11_isOfSet 28 = .ok (.if_icmp .ne 7, 3) := by decide +kernel
theorem dX11_isOfSet_31 : decode cX11_isOfSet 31 = .ok (.iconst 1, 1) := by decide +kernel
theorem dX11_isOfSet_32 : decode cX11_isOfSet 32 = .ok (.goto 4, 3) := by decide +kernel
theorem dX11_isOfSet_35 : decode cX11_isOfSet 35 = .ok (.iconst 0, 1) := by decide +kernel
theorem dX11_isOfSet_36 : decode cX11_isOfSet 36 = .ok (.ireturn, 1) := by decide +kernel
theorem dX11_set_0 : decode cX11_set 0 = .ok (.aload_n 0, 1) := by decide +kernel
theorem dX11_set_1 : decode cX11_set 1 = .ok (.iconst 0, 1) := by decide +kernel
theorem dX11_set_2 : decode cX11_set 2 = .ok (.putfield 130, 3) := by decide +kernel
theorem dX11_set_5 : decode cX11_set 5 = .ok (.iload_n 1, 1) := by decide +kernel
theorem dX11_set_6 : decode cX11_set 6 = .ok (.iconst 1, 1) := by decide +kernel
theorem dX11_set_7 : decode cX11_set 7 = .ok (.bipush 8, 2) := by decide +kernel
theorem dX11_set_9 : decode cX11_set 9 = .ok (.invokestatic 138, 3) := by decide +kernel
theorem dX11_set_12 : decode cX11_set 12 = .ok (.ifCond .eq 19, 3) := by decide +kernel
theorem dX11_set_15 : decode cX11_set 15 = .ok (.iload_n 2, 1) := by decide +kernel
theorem dX11_set_16 : decode cX11_set 16 = .ok (.invokestatic 314, 3) := by decide +kernel
theorem dX11_set_19 : decode cX11_set 19 = .ok (.ifCond .eq 12, 3) := by decide +kernel
theorem dX11_set_22 : decode cX11_set 22 = .ok (.iload_n 3, 1) := by decide +kernel
theorem dX11_set_23 : decode cX11_set 23 = .ok (.iconst 0, 1) := by decide +kernel
theorem dX11_set_24 : decode cX11_set 24 = .ok (.iconst 3, 1) := by decide +kernel
theorem dX11_set_25 : decode cX11_set 25 = .ok (.invokestatic 138, 3) := by decide +kernel
theorem dX11_set_28 : decode cX11_set 28 = .ok (.ifCond .ne 5, 3) := by decide +kernel
theorem dX11_set_31 : decode cX11_set 31 = .ok (.iconst (-1), 1) := by decide +kernel
theorem dX11_set_32 : decode cX11_set 32 = .ok (.ireturn, 1) := by decide +kernel
theorem dX11_set_33 : decode cX11_set 33 = .ok (.aload_n 0, 1) := by decide +kernel
theorem dX11_set_34 : decode cX11_set 34 = .ok (.invokevirtual 311, 3) := by decide +kernel
theorem dX11_set_37 : decode cX11_set 37 = .ok (.iconst 0, 1) := by decide +kernel
theorem dX11_set_38 : decode cX11_set 38 = .ok (.istore 4, 2) := by decide +kernel
theorem dX11_set_40 : decode cX11_set 40 = .ok (.iconst 0, 1) := by decide +kernel
theorem dX11_set_41 : decode cX11_set 41 = .ok (.istore 5, 2) := by decide +kernel
theorem dX11_set_43 : decode cX11_set 43 = .ok (.iconst 0, 1) := by decide +kernel
theorem dX11_set_44 : decode cX11_set 44 = .ok (.istore 6, 2) := by decide +kernel
theorem dX11_set_46 : decode cX11_set 46 = .ok (.iconst 0, 1) := by decide +kernel
theorem dX11_set_47 : decode cX11_set 47 = .ok (.istore 7, 2) := by decide +kernel
theorem dX11_set_49 : decode cX11_set 49 = .ok (.iconst 0, 1) := by decide +kernel
theorem dX11_set_50 : decode cX11_set 50 = .ok (.istore 8, 2) := by decide +kernel
theorem dX11_set_52 : decode cX11_set 52 = .ok (.iload 8, 2) := by decide +kernel
theorem dX11_set_54 : decode cX11_set 54 = .ok (.aload_n 0, 1) := by decide +kernel
theorem dX11_set_55 : decode cX11_set 55 = .ok (.getfield 302, 3) := by decide +kernel
theorem dX11_set_58 : decode cX11_set 58 = .ok (.if_icmp .ge 154, 3) := by decide +kernel
theorem dX11_set_61 : decode cX11_set 61 = .ok (.aload_n 0, 1) := by decide +kernel
theorem dX11_set_62 : decode cX11_set 62 = .ok (.iload 8, 2) := by decide +kernel
theorem dX11_set_64 : decode cX11_set 64 = .ok (.iload_n 1, 1) := by decide +kernel
theorem dX11_set_65 : decode cX11_set 65 = .ok (.invokevirtual 394, 3) := by decide +kernel
theorem dX11_set_68 : decode cX11_set 68 = .ok (.ifCond .ne 6, 3) := by decide +kernel
theorem dX11_set_71 : decode cX11_set 71 = .ok (.goto 135, 3) := by decide +kernel
theorem dX11_set_74 : decode cX11_set 74 = .ok (.iinc 4 1, 3) := by decide +kernel
theorem dX11_set_77 : decode cX11_set 77 = .ok (.aload_n 0, 1) := by decide +kernel
theorem dX11_set_78 : decode cX11_set 78 = .ok (.iload 8, 2) := by decide +kernel
theorem dX11_set_80 : decode cX11_set 80 = .ok (.iload_n 2, 1) := by decide +kernel
theorem dX11_set_81 : decode cX11_set 81 = .ok (.invokevirtual 320, 3) := by decide +kernel
theorem dX11_set_84 : decode cX11_set 84 = .ok (.istore 9, 2) := by decide +kernel
theorem dX11_set_86 : decode cX11_set 86 = .ok (.iload 9, 2) := by decide +kernel
theorem dX11_set_88 : decode cX11_set 88 = .ok (.iload 6, 2) := by decide +kernel
theorem dX11_set_90 : decode cX11_set 90 = .ok (.if_icmp .le 8, 3) := by decide +kernel
theorem dX11_set_93 : decode cX11_set 93 = .ok (.iload 9, 2) := by decide +kernel
theorem dX11_set_95 : decode cX11_set 95 = .ok (.goto 5, 3) := by decide +kernel
theorem dX11_set_98 : decode cX11_set 98 = .ok (.iload 6, 2) := by decide +kernel
theorem dX11_set_100 : decode cX11_set 100 = .ok (.istore 6, 2) := by decide +kernel
theorem dX11_set_102 : decode cX11_set 102 = .ok (.iconst 0, 1) := by decide +kernel
theorem dX11_set_103 : decode cX11_set 103 = .ok (.istore 10, 2) := by decide +kernel
theorem dX11_set_105 : decode cX11_set 105 = .ok (.iconst 0, 1) := by decide +kernel
theorem dX11_set_106 : decode cX11_set 106 = .ok (.istore 11, 2) := by decide +kernel
theorem dX11_set_108 : decode cX11_set 108 = .ok (.iload 11, 2) := by decide +kernel
theorem dX11_set_110 : decode cX11_set 110 = .ok (.iload 8, 2) := by decide +kernel
theorem dX11_set_112 : decode cX11_set 112 = .ok (.if_icmp .ge 41, 3) := by decide +kernel
theorem dX11_set_115 : decode cX11_set 115 = .ok (.iload 10, 2) := by decide +kernel
theorem dX11_set_117 : decode cX11_set 117 = .ok (.aload_n 0, 1) := by decide +kernel
theorem dX11_set_118 : decode cX11_set 118 = .ok (.iload 11, 2) := by decide +kernel
theorem dX11_set_120 : decode cX11_set 120 = .ok (.iload_n 1, 1) := by decide +kernel
theorem dX11_set_121 : decode cX11_set 121 = .ok (.invokevirtual 394, 3) := by decide +kernel
theorem dX11_set_124 : decode cX11_set 124 = .ok (.ifCond .eq 19, 3) := by decide +kernel
theorem dX11_set_127 : decode cX11_set 127 = .ok (.aload_n 0, 1) := by decide +kernel
theorem dX11_set_128 : decode cX11_set 128 = .ok (.iload 11, 2) := by decide +kernel
theorem dX11_set_130 : decode cX11_set 130 = .ok (.iload_n 2, 1) := by decide +kernel
theorem dX11_set_131 : decode cX11_set 131 = .ok (.invokevirtual 320, 3) := by decide +kernel
theorem dX11_set_134 : decode cX11_set 134 = .ok (.iload 9, 2) := by decide +kernel
theorem dX11_set_136 : decode cX11_set 136 = .ok (.if_icmp .ne 7, 3) := by decide +kernel
theorem dX11_set_139 : decode cX11_set 139 = .ok (.iconst 1, 1) := by decide +kernel
theorem dX11_set_140 : decode cX11_set 140 = .ok (.goto 4, 3) := by decide +kernel
theorem dX11_set_143 : decode cX11_set 143 = .ok (.iconst 0, 1) := by decide +kernel
theorem dX11_set_144 : decode cX11_set 144 = .ok (.ior, 1) := by decide +kernel
theorem dX11_set_145 : decode cX11_set 145 = .ok (.istore 10, 2) := by decide +kernel
theorem dX11_set_147 : decode cX11_set 147 = .ok (.iinc 11 1, 3) := by decide +kernel
theorem dX11_set_150 : decode cX11_set 150 = .ok (.goto (-42), 3) := by decide +kernel
theorem dX11_set_153 : decode cX11_set 153 = .ok (.iload 5, 2) := by decide +kernel
theorem dX11_set_155 : decode cX11_set 155 = .ok (.iload 10, 2) := by decide +kernel
theorem dX11_set_157 : decode cX11_set 157 = .ok (.ifCond .eq 7, 3) := by decide +kernel
theorem dX11_set_160 : decode cX11_set 160 = .ok (.iconst 1, 1) := by decide +kernel
theorem dX11_set_161 : decode cX11_set 161 = .ok (.goto 4, 3) := by decide +kernel
theorem dX11_set_164 : decode cX11_set 164 = .ok (.iconst 0, 1) := by decide +kernel
theorem dX11_set_165 : decode cX11_set 165 = .ok (.iadd, 1) := by decide +kernel
theorem dX11_set_166 : decode cX11_set 166 = .ok (.istore 5, 2) := by decide +kernel
theorem dX11_set_168 : decode cX11_set 168 = .ok (.iconst 0, 1) := by decide +kernel
theorem dX11_set_169 : decode cX11_set 169 = .ok (.istore 11, 2) := by decide +kernel
theorem dX11_set_171 : decode cX11_set 171 = .ok (.iload 11, 2) := by decide +kernel
theorem dX11_set_173 : decode cX11_set 173 = .ok (.bipush 6, 2) := by decide +kernel
theorem dX11_set_175 : decode cX11_set 175 = .ok (.if_icmp .ge 31, 3) := by decide +kernel
theorem dX11_set_178 : decode cX11_set 178 = .ok (.iload 7, 2) := by decide +kernel
theorem dX11_set_180 : decode cX11_set 180 = .ok (.iload 9, 2) := by decide +kernel
theorem dX11_set_182 : decode cX11_set 182 = .ok (.iconst 1, 1) := by decide +kernel
theorem dX11_set_183 : decode cX11_set 183 = .ok (.iload 11, 2) := by decide +kernel
theorem dX11_set_185 : decode cX11_set 185 = .ok (.ishl, 1) := by decide +kernel
theorem dX11_set_186 : decode cX11_set 186 = .ok (.if_icmp .ne 10, 3) := by decide +kernel
theorem dX11_set_189 : decode cX11_set 189 = .ok (.iconst 1, 1) := by decide +kernel
theorem dX11_set_190 : decode cX11_set 190 = .ok (.iload 11, 2) := by decide +kernel
theorem dX11_set_192 : decode cX11_set 192 = .ok (.ishl, 1) := by decide +kernel
theorem dX11_set_193 : decode cX11_set 193 = .ok (.goto 4, 3) := by decide +kernel
theorem dX11_set_196 : decode cX11_set 196 = .ok (.iconst 0, 1) := by decide +kernel
theorem dX11_set_197 : decode cX11_set 197 = .ok (.ior, 1) := by decide +kernel
theorem dX11_set_198 : decode cX11_set 198 = .ok (.istore 7, 2) := by decide +kernel
theorem dX11_set_200 : decode cX11_set 200 = .ok (.iinc 11 1, 3) := by decide +kernel
theorem dX11_set_203 : decode cX11_set 203 = .ok (.goto (-32), 3) := by decide +kernel
theorem dX11_set_206 : decode cX11_set 206 = .ok (.iinc 8 1, 3) := by decide +kernel
theorem dX11_set_209 : decode cX11_set 209 = .ok (.goto (-157), 3) := by decide +kernel
theorem dX11_set_212 : decode cX11_set 212 = .ok (.iconst 0, 1) := by decide +kernel
theorem dX11_set_213 : decode cX11_set 213 = .ok (.istore 8, 2) := by decide +kernel
theorem dX11_set_215 : decode cX11_set 215 = .ok (.iconst 0, 1) := by decide +kernel
theorem dX11_set_216 : decode cX11_set 216 = .ok (.istore 9, 2) := by decide +kernel
theorem dX11_set_218 : decode cX11_set 218 = .ok (.iload 9, 2) := by decide +kernel
theorem dX11_set_220 : decode cX11_set 220 = .ok (.bipush 6, 2) := by decide +kernel
theorem dX11_set_222 : decode cX11_set 222 = .ok (.if_icmp .ge 41, 3) := by decide +kernel
theorem dX11_set_225 : decode cX11_set 225 = .ok (.iload 8, 2) := by decide +kernel
theorem dX11_set_227 : decode cX11_set 227 = .ok (.iconst 1, 1) := by decide +kernel
theorem dX11_set_228 : decode cX11_set 228 = .ok (.iload 9, 2) := by decide +kernel
theorem dX11_set_230 : decode cX11_set 230 = .ok (.ishl, 1) := by decide +kernel
theorem dX11_set_231 : decode cX11_set 231 = .ok (.iload 6, 2) := by decide +kernel
theorem dX11_set_233 : decode cX11_set 233 = .ok (.if_icmp .gt 20, 3) := by decide +kernel
theorem dX11_set_236 : decode cX11_set 236 = .ok (.iload 7, 2) := by decide +kernel
theorem dX11_set_238 : decode cX11_set 238 = .ok (.iload 9, 2) := by decide +kernel
theorem dX11_set_240 : decode cX11_set 240 = .ok (.ishr, 1) := by decide +kernel
theorem dX11_set_241 : decode cX11_set 241 = .ok (.iconst 1, 1) := by decide +kernel
theorem dX11_set_242 : decode cX11_set 242 = .ok (.iand, 1) := by decide +kernel
theorem dX11_set_243 : decode cX11_set 243 = .ok (.ifCond .ne 10, 3) := by decide +kernel
theorem dX11_set_246 : decode cX11_set 246 = .ok (.iconst 1, 1) := by decide +kernel
theorem dX11_set_247 : decode cX11_set 247 = .ok (.iload 9, 2) := by decide +kernel
theorem dX11_set_249 : decode cX11_set 249 = .ok (.ishl, 1) := by decide +kernel
theorem dX11_set_250 : decode cX11_set 250 = .ok (.goto 4, 3) := by decide +kernel
theorem dX11_set_253 : decode cX11_set 253 = .ok (.iconst 0, 1) := by decide +kernel
theorem dX11_set_254 : decode cX11_set 254 = .ok (.ior, 1) := by decide +kernel
theorem dX11_set_255 : decode cX11_set 255 = .ok (.istore 8, 2) := by decide +kernel
theorem dX11_set_257 : decode cX11_set 257 = .ok (.iinc 9 1, 3) := by decide +kernel
theorem dX11_set_260 : decode cX11_set 260 = .ok (.goto (-42), 3) := by decide +kernel
theorem dX11_set_263 : decode cX11_set 263 = .ok (.iload_n 3, 1) := by decide +kernel
theorem dX11_set_264 : decode cX11_set 264 = .ok (.ifCond .ne 8, 3) := by decide +kernel
theorem dX11_set_267 : decode cX11_set 267 = .ok (.iload 4, 2) := by decide +kernel
theorem dX11_set_269 : decode cX11_set 269 = .ok (.goto 25, 3) := by decide +kernel
theorem dX11_set_272 : decode cX11_set 272 = .ok (.iload_n 3, 1) := by decide +kernel
theorem dX11_set_273 : decode cX11_set 273 = .ok (.iconst 1, 1) := by decide +kernel
theorem dX11_set_274 : decode cX11_set 274 = .ok (.if_icmp .ne 8, 3) := by decide +kernel
theorem dX11_set_277 : decode cX11_set 277 = .ok (.iload 5, 2) := by decide +kernel
theorem dX11_set_279 : decode cX11_set 279 = .ok (.goto 15, 3) := by decide +kernel
theorem dX11_set_282 : decode cX11_set 282 = .ok (.iload_n 3, 1) := by decide +kernel
theorem dX11_set_283 : decode cX11_set 283 = .ok (.iconst 2, 1) := by decide +kernel
theorem dX11_set_284 : decode cX11_set 284 = .ok (.if_icmp .ne 8, 3) := by decide +kernel
theorem dX11_set_287 : decode cX11_set 287 = .ok (.iload 8, 2) := by decide +kernel
theorem dX11_set_289 : decode cX11_set 289 = .ok (.goto 5, 3) := by decide +kernel
theorem dX11_set_292 : decode cX11_set 292 = .ok (.iload 6, 2) := by decide +kernel
theorem dX11_set_294 : decode cX11_set 294 = .ok (.ireturn, 1) := by decide +kernel
theorem dX11_keepChosen_0 : decode cX11_keepChosen 0 = .ok (.iconst 0, 1) := by decide +kernel
theorem dX11_keepChosen_1 : decode cX11_keepChosen 1 = .ok (.istore_n 1, 1) := by decide +kernel
theorem dX11_keepChosen_2 : decode cX11_keepChosen 2 = .ok (.iload_n 1, 1) := by decide +kernel
theorem dX11_keepChosen_3 : decode cX11_keepChosen 3 = .ok (.aload_n 0, 1) := by decide +kernel
theorem dX11_keepChosen_4 : decode cX11_keepChosen 4 = .ok (.getfield 302, 3) := by decide +kernel
theorem dX11_keepChosen_7 : decode cX11_keepChosen 7 = .ok (.if_icmp .ge 21, 3) := by decide +kernel
theorem dX11_keepChosen_10 : decode cX11_keepChosen 10 = .ok (.aload_n 0, 1) := by decide +kernel
theorem dX11_keepChosen_11 : decode cX11_keepChosen 11 = .ok (.getfield 124, 3) := by decide +kernel
theorem dX11_keepChosen_14 : decode cX11_keepChosen 14 = .ok (.iload_n 1, 1) := by decide +kernel
theorem dX11_keepChosen_15 : decode cX11_keepChosen 15 = .ok (.aload_n 0, 1) := by decide +kernel
theorem dX11_keepChosen_16 : decode cX11_keepChosen 16 = .ok (.getfield 114, 3) := by decide +kernel
theorem dX11_keepChosen_19 : decode cX11_keepChosen 19 = .ok (.iload_n 1, 1) := by decide +kernel
theorem dX11_keepChosen_20 : decode cX11_keepChosen 20 = .ok (.baload, 1) := by decide +kernel
theorem dX11_keepChosen_21 : decode cX11_keepChosen 21 = .ok (.bastore, 1) := by decide +kernel
theorem dX11_keepChosen_22 : decode cX11_keepChosen 22 = .ok (.iinc 1 1, 3) := by decide +kernel
theorem dX11_keepChosen_25 : decode cX11_keepChosen 25 = .ok (.goto (-23), 3) := by decide +kernel
theorem dX11_keepChosen_28 : decode cX11_keepChosen 28 = .ok (.return_, 1) := by decide +kernel
theorem dX11_bestOfTown_0 : decode cX11_bestOfTown 0 = .ok (.iconst 0, 1) := by decide +kernel
theorem dX11_bestOfTown_1 : decode cX11_bestOfTown 1 = .ok (.istore 4, 2) := by decide +kernel
theorem dX11_bestOfTown_3 : decode cX11_bestOfTown 3 = .ok (.iload 4, 2) := by decide +kernel
theorem dX11_bestOfTown_5 : decode cX11_bestOfTown 5 = .ok (.aload_n 0, 1) := by decide +kernel
theorem dX11_bestOfTown_6 : decode cX11_bestOfTown 6 = .ok (.getfield 302, 3) := by decide +kernel
theorem dX11_bestOfTown_9 : decode cX11_bestOfTown 9 = .ok (.if_icmp .ge 42, 3) := by decide +kernel
theorem dX11_bestOfTown_12 : decode cX11_bestOfTown 12 = .ok (.aload_n 0, 1) := by decide +kernel
theorem dX11_bestOfTown_13 : decode cX11_bestOfTown 13 = .ok (.getfield 114, 3) := by decide +kernel
theorem dX11_bestOfTown_16 : decode cX11_bestOfTown 16 = .ok (.iload 4, 2) := by decide +kernel
theorem dX11_bestOfTown_18 : decode cX11_bestOfTown 18 = .ok (.aload_n 0, 1) := by decide +kernel
theorem dX11_bestOfTown_19 : decode cX11_bestOfTown 19 = .ok (.getfield 124, 3) := by decide +kernel
theorem dX11_bestOfTown_22 : decode cX11_bestOfTown 22 = .ok (.iload 4, 2) := by decide +kernel
theorem dX11_bestOfTown_24 : decode cX11_bestOfTown 24 = .ok (.baload, 1) := by decide +kernel
theorem dX11_bestOfTown_25 : decode cX11_bestOfTown 25 = .ok (.ifCond .eq 18, 3) := by decide +kernel
theorem dX11_bestOfTown_28 : decode cX11_bestOfTown 28 = .ok (.aload_n 0, 1) := by decide +kernel
theorem dX11_bestOfTown_29 : decode cX11_bestOfTown 29 = .ok (.iload 4, 2) := by decide +kernel
theorem dX11_bestOfTown_31 : decode cX11_bestOfTown 31 = .ok (.iconst 4, 1) := by decide +kernel
theorem dX11_bestOfTown_32 : decode cX11_bestOfTown 32 = .ok (.invokevirtual 291, 3) := by decide +kernel
theorem dX11_bestOfTown_35 : decode cX11_bestOfTown 35 = .ok (.iload_n 1, 1) := by decide +kernel
theorem dX11_bestOfTown_36 : decode cX11_bestOfTown 36 = .ok (.if_icmp .ne 7, 3) := by decide +kernel
theorem dX11_bestOfTown_39 : decode cX11_bestOfTown 39 = .ok (.iconst 1, 1) := by decide +kernel
theorem dX11_bestOfTown_40 : decode cX11_bestOfTown 40 = .ok (.goto 4, 3) := by decide +kernel
theorem dX11_bestOfTown_43 : decode cX11_bestOfTown 43 = .ok (.iconst 0, 1) := by decide +kernel
theorem dX11_bestOfTown_44 : decode cX11_bestOfTown 44 = .ok (.bastore, 1) := by decide +kernel
theorem dX11_bestOfTown_45 : decode cX11_bestOfTown 45 = .ok (.iinc 4 1, 3) := by decide +kernel
theorem dX11_bestOfTown_48 : decode cX11_bestOfTown 48 = .ok (.goto (-45), 3) := by decide +kernel
theorem dX11_bestOfTown_51 : decode cX11_bestOfTown 51 = .ok (.aload_n 0, 1) := by decide +kernel
theorem dX11_bestOfTown_52 : decode cX11_bestOfTown 52 = .ok (.invokevirtual 344, 3) := by decide +kernel
theorem dX11_bestOfTown_55 : decode cX11_bestOfTown 55 = .ok (.ifCond .ne 7, 3) := by decide +kernel
theorem dX11_bestOfTown_58 : decode cX11_bestOfTown 58 = .ok (.iconst (-1), 1) := by decide +kernel
theorem dX11_bestOfTown_59 : decode cX11_bestOfTown 59 = .ok (.goto 9, 3) := by decide +kernel
theorem dX11_bestOfTown_62 : decode cX11_bestOfTown 62 = .ok (.aload_n 0, 1) := by decide +kernel
theorem dX11_bestOfTown_63 : decode cX11_bestOfTown 63 = .ok (.iload_n 2, 1) := by decide +kernel
theorem dX11_bestOfTown_64 : decode cX11_bestOfTown 64 = .ok (.iload_n 3, 1) := by decide +kernel
theorem dX11_bestOfTown_65 : decode cX11_bestOfTown 65 = .ok (.invokevirtual 347, 3) := by decide +kernel
theorem dX11_bestOfTown_68 : decode cX11_bestOfTown 68 = .ok (.ireturn, 1) := by decide +kernel
theorem dX11_gcd_0 : decode cX11_gcd 0 = .ok (.iload_n 0, 1) := by decide +kernel
theorem dX11_gcd_1 : decode cX11_gcd 1 = .ok (.istore_n 2, 1) := by decide +kernel
theorem dX11_gcd_2 : decode cX11_gcd 2 = .ok (.iload_n 1, 1) := by decide +kernel
theorem dX11_gcd_3 : decode cX11_gcd 3 = .ok (.istore_n 3, 1) := by decide +kernel
theorem dX11_gcd_4 : decode cX11_gcd 4 = .ok (.iload_n 3, 1) := by decide +kernel
theorem dX11_gcd_5 : decode cX11_gcd 5 = .ok (.ifCond .eq 16, 3) := by decide +kernel
theorem dX11_gcd_8 : decode cX11_gcd 8 = .ok (.iload_n 2, 1) := by decide +kernel
theorem dX11_gcd_9 : decode cX11_gcd 9 = .ok (.iload_n 3, 1) := by decide +kernel
theorem dX11_gcd_10 : decode cX11_gcd 10 = .ok (.irem, 1) := by decide +kernel
theorem dX11_gcd_11 : decode cX11_gcd 11 = .ok (.istore 4, 2) := by decide +kernel
theorem dX11_gcd_13 : decode cX11_gcd 13 = .ok (.iload_n 3, 1) := by decide +kernel
theorem dX11_gcd_14 : decode cX11_gcd 14 = .ok (.istore_n 2, 1) := by decide +kernel
theorem dX11_gcd_15 : decode cX11_gcd 15 = .ok (.iload 4, 2) := by decide +kernel
theorem dX11_gcd_17 : decode cX11_gcd 17 = .ok (.istore_n 3, 1) := by decide +kernel
theorem dX11_gcd_18 : decode cX11_gcd 18 = .ok (.goto (-14), 3) := by decide +kernel
theorem dX11_gcd_21 : decode cX11_gcd 21 = .ok (.iload_n 2, 1) := by decide +kernel
theorem dX11_gcd_22 : decode cX11_gcd 22 = .ok (.ireturn, 1) := by decide +kernel
theorem dX11_rate_0 : decode cX11_rate 0 = .ok (.aload_n 0, 1) := by decide +kernel
theorem dX11_rate_1 : decode cX11_rate 1 = .ok (.iconst 0, 1) := by decide +kernel
theorem dX11_rate_2 : decode cX11_rate 2 = .ok (.putfield 130, 3) := by decide +kernel
theorem dX11_rate_5 : decode cX11_rate 5 = .ok (.iload_n 1, 1) := by decide +kernel
theorem dX11_rate_6 : decode cX11_rate 6 = .ok (.iconst 0, 1) := by decide +kernel
theorem dX11_rate_7 : decode cX11_rate 7 = .ok (.iconst 5, 1) := by decide +kernel
theorem dX11_rate_8 : decode cX11_rate 8 = .ok (.invokestatic 138, 3) := by decide +kernel
theorem dX11_rate_11 : decode cX11_rate 11 = .ok (.ifCond .eq 38, 3) := by decide +kernel
theorem dX11_rate_14 : decode cX11_rate 14 = .ok (.iload_n 2, 1) := by decide +kernel
theorem dX11_rate_15 : decode cX11_rate 15 = .ok (.iconst 0, 1) := by decide +kernel
theorem dX11_rate_16 : decode cX11_rate 16 = .ok (.iconst 5, 1) := by decide +kernel
theorem dX11_rate_17 : decode cX11_rate 17 = .ok (.invokestatic 138, 3) := by decide +kernel
theorem dX11_rate_20 : decode cX11_rate 20 = .ok (.ifCond .eq 29, 3) := by decide +kernel
theorem dX11_rate_23 : decode cX11_rate 23 = .ok (.iload_n 1, 1) := by decide +kernel
theorem dX11_rate_24 : decode cX11_rate 24 = .ok (.iload_n 2, 1) := by decide +kernel
theorem dX11_rate_25 : decode cX11_rate 25 = .ok (.if_icmp .eq 24, 3) := by decide +kernel
theorem dX11_rate_28 : decode cX11_rate 28 = .ok (.iload_n 3, 1) := by decide +kernel
theorem dX11_rate_29 : decode cX11_rate 29 = .ok (.iload 4, 2) := by decide +kernel
theorem dX11_rate_31 : decode cX11_rate 31 = .ok (.invokestatic 340, 3) := by decide +kernel
theorem dX11_rate_34 : decode cX11_rate 34 = .ok (.ifCond .eq 15, 3) := by decide +kernel
theorem dX11_rate_37 : decode cX11_rate 37 = .ok (.iload 5, 2) := by decide +kernel
theorem dX11_rate_39 : decode cX11_rate 39 = .ok (.iconst 0, 1) := by decide +kernel
theorem dX11_rate_40 : decode cX11_rate 40 = .ok (.sipush 200, 3) := by decide +kernel
theorem dX11_rate_43 : decode cX11_rate 43 = .ok (.invokestatic 138, 3) := by decide +kernel
theorem dX11_rate_46 : decode cX11_rate 46 = .ok (.ifCond .ne 5, 3) := by decide +kernel
theorem dX11_rate_49 : decode cX11_rate 49 = .ok (.iconst (-1), 1) := by decide +kernel
theorem dX11_rate_50 : decode cX11_rate 50 = .ok (.ireturn, 1) := by decide +kernel
theorem dX11_rate_51 : decode cX11_rate 51 = .ok (.aload_n 0, 1) := by decide +kernel
theorem dX11_rate_52 : decode cX11_rate 52 = .ok (.invokevirtual 311, 3) := by decide +kernel
theorem dX11_rate_55 : decode cX11_rate 55 = .ok (.aload_n 0, 1) := by decide +kernel
theorem dX11_rate_56 : decode cX11_rate 56 = .ok (.invokevirtual 397, 3) := by decide +kernel
theorem dX11_rate_59 : decode cX11_rate 59 = .ok (.aload_n 0, 1) := by decide +kernel
theorem dX11_rate_60 : decode cX11_rate 60 = .ok (.iload_n 1, 1) := by decide +kernel
theorem dX11_rate_61 : decode cX11_rate 61 = .ok (.iload_n 3, 1) := by decide +kernel
theorem dX11_rate_62 : decode cX11_rate 62 = .ok (.iload 4, 2) := by decide +kernel
theorem dX11_rate_64 : decode cX11_rate 64 = .ok (.invokevirtual 400, 3) := by decide +kernel
theorem dX11_rate_67 : decode cX11_rate 67 = .ok (.istore 6, 2) := by decide +kernel
theorem dX11_rate_69 : decode cX11_rate 69 = .ok (.aload_n 0, 1) := by decide +kernel
theorem dX11_rate_70 : decode cX11_rate 70 = .ok (.iload_n 2, 1) := by decide +kernel
theorem dX11_rate_71 : decode cX11_rate 71 = .ok (.iload_n 3, 1) := by decide +kernel
theorem dX11_rate_72 : decode cX11_rate 72 = .ok (.iload 4, 2) := by decide +kernel
theorem dX11_rate_74 : decode cX11_rate 74 = .ok (.invokevirtual 400, 3) := by decide +kernel
theorem dX11_rate_77 : decode cX11_rate 77 = .ok (.istore 7, 2) := by decide +kernel
theorem dX11_rate_79 : decode cX11_rate 79 = .ok (.iload 6, 2) := by decide +kernel
theorem dX11_rate_81 : decode cX11_rate 81 = .ok (.iconst (-1), 1) := by decide +kernel
theorem dX11_rate_82 : decode cX11_rate 82 = .ok (.if_icmp .eq 9, 3) := by decide +kernel
theorem dX11_rate_85 : decode cX11_rate 85 = .ok (.iload 7, 2) := by decide +kernel
theorem dX11_rate_87 : decode cX11_rate 87 = .ok (.iconst (-1), 1) := by decide +kernel
theorem dX11_rate_88 : decode cX11_rate 88 = .ok (.if_icmp .ne 5, 3) := by decide +kernel
theorem dX11_rate_91 : decode cX11_rate 91 = .ok (.iconst (-1), 1) := by decide +kernel
theorem dX11_rate_92 : decode cX11_rate 92 = .ok (.ireturn, 1) := by decide +kernel
theorem dX11_rate_93 : decode cX11_rate 93 = .ok (.iconst 2, 1) := by decide +kernel
theorem dX11_rate_94 : decode cX11_rate 94 = .ok (.istore 8, 2) := by decide +kernel
theorem dX11_rate_96 : decode cX11_rate 96 = .ok (.iload 8, 2) := by decide +kernel
theorem dX11_rate_98 : decode cX11_rate 98 = .ok (.bipush 24, 2) := by decide +kernel
theorem dX11_rate_100 : decode cX11_rate 100 = .ok (.if_icmp .gt 116, 3) := by decide +kernel
theorem dX11_rate_103 : decode cX11_rate 103 = .ok (.iconst 1, 1) := by decide +kernel
theorem dX11_rate_104 : decode cX11_rate 104 = .ok (.istore 9, 2) := by decide +kernel
theorem dX11_rate_106 : decode cX11_rate 106 = .ok (.iload 9, 2) := by decide +kernel
theorem dX11_rate_108 : decode cX11_rate 108 = .ok (.iload 8, 2) := by decide +kernel
theorem dX11_rate_110 : decode cX11_rate 110 = .ok (.if_icmp .ge 100, 3) := by decide +kernel
theorem dX11_rate_113 : decode cX11_rate 113 = .ok (.iload 8, 2) := by decide +kernel
theorem dX11_rate_115 : decode cX11_rate 115 = .ok (.iload 9, 2) := by decide +kernel
theorem dX11_rate_117 : decode cX11_rate 117 = .ok (.isub, 1) := by decide +kernel
theorem dX11_rate_118 : decode cX11_rate 118 = .ok (.istore 10, 2) := by decide +kernel
theorem dX11_rate_120 : decode cX11_rate 120 = .ok (.iload 6, 2) := by decide +kernel
theorem dX11_rate_122 : decode cX11_rate 122 = .ok (.iload 10, 2) := by decide +kernel
theorem dX11_rate_124 : decode cX11_rate 124 = .ok (.imul, 1) := by decide +kernel
theorem dX11_rate_125 : decode cX11_rate 125 = .ok (.iload 7, 2) := by decide +kernel
theorem dX11_rate_127 : decode cX11_rate 127 = .ok (.iload 9, 2) := by decide +kernel
theorem dX11_rate_129 : decode cX11_rate 129 = .ok (.imul, 1) := by decide +kernel
theorem dX11_rate_130 : decode cX11_rate 130 = .ok (.isub, 1) := by decide +kernel
theorem dX11_rate_131 : decode cX11_rate 131 = .ok (.istore 11, 2) := by decide +kernel
theorem dX11_rate_133 : decode cX11_rate 133 = .ok (.iload 11, 2) := by decide +kernel
theorem dX11_rate_135 : decode cX11_rate 135 = .ok (.ifCond .ge 9, 3) := by decide +kernel
theorem dX11_rate_138 : decode cX11_rate 138 = .ok (.iload 11, 2) := by decide +kernel
theorem dX11_rate_140 : decode cX11_rate 140 = .ok (.ineg, 1) := by decide +kernel
theorem dX11_rate_141 : decode cX11_rate 141 = .ok (.goto 5, 3) := by decide +kernel
theorem dX11_rate_144 : decode cX11_rate 144 = .ok (.iload 11, 2) := by decide +kernel
theorem dX11_rate_146 : decode cX11_rate 146 = .ok (.istore 11, 2) := by decide +kernel
theorem dX11_rate_148 : decode cX11_rate 148 = .ok (.iload 9, 2) := by decide +kernel
theorem dX11_rate_150 : decode cX11_rate 150 = .ok (.bipush 13, 2) := by decide +kernel
theorem dX11_rate_152 : decode cX11_rate 152 = .ok (.if_icmp .ge 52, 3) := by decide +kernel
theorem dX11_rate_155 : decode cX11_rate 155 = .ok (.iload 10, 2) := by decide +kernel
theorem dX11_rate_157 : decode cX11_rate 157 = .ok (.bipush 13, 2) := by decide +kernel
theorem dX11_rate_159 : decode cX11_rate 159 = .ok (.if_icmp .ge 45, 3) := by decide +kernel
theorem dX11_rate_162 : decode cX11_rate 162 = .ok (.iload 9, 2) := by decide +kernel
theorem dX11_rate_164 : decode cX11_rate 164 = .ok (.iload 10, 2) := by decide +kernel
theorem dX11_rate_166 : decode cX11_rate 166 = .ok (.invokestatic 403, 3) := by decide +kernel
theorem dX11_rate_169 : decode cX11_rate 169 = .ok (.iconst 1, 1) := by decide +kernel
theorem dX11_rate_170 : decode cX11_rate 170 = .ok (.if_icmp .ne 34, 3) := by decide +kernel
theorem dX11_rate_173 : decode cX11_rate 173 = .ok (.ldc2_w 383, 3) := by decide +kernel
theorem dX11_rate_176 : decode cX11_rate 176 = .ok (.iload 11, 2) := by decide +kernel
theorem dX11_rate_178 : decode cX11_rate 178 = .ok (.i2l, 1) := by decide +kernel
theorem dX11_rate_179 : decode cX11_rate 179 = .ok (.lmul, 1) := by decide +kernel
theorem dX11_rate_180 : decode cX11_rate 180 = .ok (.iload 5, 2) := by decide +kernel
theorem dX11_rate_182 : decode cX11_rate 182 = .ok (.i2l, 1) := by decide +kernel
theorem dX11_rate_183 : decode cX11_rate 183 = .ok (.iload 7, 2) := by decide +kernel
theorem dX11_rate_185 : decode cX11_rate 185 = .ok (.i2l, 1) := by decide +kernel
theorem dX11_rate_186 : decode cX11_rate 186 = .ok (.lmul, 1) := by decide +kernel
theorem dX11_rate_187 : decode cX11_rate 187 = .ok (.iload 9, 2) := by decide +kernel
theorem dX11_rate_189 : decode cX11_rate 189 = .ok (.i2l, 1) := by decide +kernel
theorem dX11_rate_190 : decode cX11_rate 190 = .ok (.lmul, 1) := by decide +kernel
theorem dX11_rate_191 : decode cX11_rate 191 = .ok (.lcmp, 1) := by decide +kernel
theorem dX11_rate_192 : decode cX11_rate 192 = .ok (.ifCond .gt 12, 3) := by decide +kernel
theorem dX11_rate_195 : decode cX11_rate 195 = .ok (.bipush 100, 2) := by decide +kernel
theorem dX11_rate_197 : decode cX11_rate 197 = .ok (.iload 9, 2) := by decide +kernel
theorem dX11_rate_199 : decode cX11_rate 199 = .ok (.imul, 1) := by decide +kernel
theorem dX11_rate_200 : decode cX11_rate 200 = .ok (.iload 10, 2) := by decide +kernel
theorem dX11_rate_202 : decode cX11_rate 202 = .ok (.iadd, 1) := by decide +kernel
theorem dX11_rate_203 : decode cX11_rate 203 = .ok (.ireturn, 1) := by decide +kernel
theorem dX11_rate_204 : decode cX11_rate 204 = .ok (.iinc 9 1, 3) := by decide +kernel
theorem dX11_rate_207 : decode cX11_rate 207 = .ok (.goto (-101), 3) := by decide +kernel
theorem dX11_rate_210 : decode cX11_rate 210 = .ok (.iinc 8 1, 3) := by decide +kernel
theorem dX11_rate_213 : decode cX11_rate 213 = .ok (.goto (-117), 3) := by decide +kernel
theorem dX11_rate_216 : decode cX11_rate 216 = .ok (.iconst (-1), 1) := by decide +kernel
theorem dX11_rate_217 : decode cX11_rate 217 = .ok (.ireturn, 1) := by decide +kernel
theorem dX11_drift_0 : decode cX11_drift 0 = .ok (.aload_n 0, 1) := by decide +kernel
theorem dX11_drift_1 : decode cX11_drift 1 = .ok (.iconst 0, 1) := by decide +kernel
theorem dX11_drift_2 : decode cX11_drift 2 = .ok (.putfield 130, 3) := by decide +kernel
theorem dX11_drift_5 : decode cX11_drift 5 = .ok (.iload_n 1, 1) := by decide +kernel
theorem dX11_drift_6 : decode cX11_drift 6 = .ok (.sipush (-3000), 3) := by decide +kernel
theorem dX11_drift_9 : decode cX11_drift 9 = .ok (.sipush 1900, 3) := by decide +kernel
theorem dX11_drift_12 : decode cX11_drift 12 = .ok (.invokestatic 138, 3) := by decide +kernel
theorem dX11_drift_15 : decode cX11_drift 15 = .ok (.ifCond .eq 11, 3) := by decide +kernel
theorem dX11_drift_18 : decode cX11_drift 18 = .ok (.iload_n 2, 1) := by decide +kernel
theorem dX11_drift_19 : decode cX11_drift 19 = .ok (.iload_n 3, 1) := by decide +kernel
theorem dX11_drift_20 : decode cX11_drift 20 = .ok (.invokestatic 340, 3) := by decide +kernel
theorem dX11_drift_23 : decode cX11_drift 23 = .ok (.ifCond .ne 6, 3) := by decide +kernel
theorem dX11_drift_26 : decode cX11_drift 26 = .ok (.ldc 161, 2) := by decide +kernel
theorem dX11_drift_28 : decode cX11_drift 28 = .ok (.ireturn, 1) := by decide +kernel
theorem dX11_drift_29 : decode cX11_drift 29 = .ok (.aload_n 0, 1) := by decide +kernel
theorem dX11_drift_30 : decode cX11_drift 30 = .ok (.invokevirtual 311, 3) := by decide +kernel
theorem dX11_drift_33 : decode cX11_drift 33 = .ok (.aload_n 0, 1) := by decide +kernel
theorem dX11_drift_34 : decode cX11_drift 34 = .ok (.invokevirtual 397, 3) := by decide +kernel
theorem dX11_drift_37 : decode cX11_drift 37 = .ok (.iconst 0, 1) := by decide +kernel
theorem dX11_drift_38 : decode cX11_drift 38 = .ok (.istore 4, 2) := by decide +kernel
theorem dX11_drift_40 : decode cX11_drift 40 = .ok (.iload 4, 2) := by decide +kernel
theorem dX11_drift_42 : decode cX11_drift 42 = .ok (.aload_n 0, 1) := by decide +kernel
theorem dX11_drift_43 : decode cX11_drift 43 = .ok (.getfield 302, 3) := by decide +kernel
theorem dX11_drift_46 : decode cX11_drift 46 = .ok (.if_icmp .ge 42, 3) := by decide +kernel
theorem dX11_drift_49 : decode cX11_drift 49 = .ok (.aload_n 0, 1) := by decide +kernel
theorem dX11_drift_50 : decode cX11_drift 50 = .ok (.getfield 114, 3) := by decide +kernel
theorem dX11_drift_53 : decode cX11_drift 53 = .ok (.iload 4, 2) := by decide +kernel
theorem dX11_drift_55 : decode cX11_drift 55 = .ok (.aload_n 0, 1) := by decide +kernel
theorem dX11_drift_56 : decode cX11_drift 56 = .ok (.getfield 124, 3) := by decide +kernel
theorem dX11_drift_59 : decode cX11_drift 59 = .ok (.iload 4, 2) := by decide +kernel
theorem dX11_drift_61 : decode cX11_drift 61 = .ok (.baload, 1) := by decide +kernel
theorem dX11_drift_62 : decode cX11_drift 62 = .ok (.ifCond .eq 18, 3) := by decide +kernel
theorem dX11_drift_65 : decode cX11_drift 65 = .ok (.aload_n 0, 1) := by decide +kernel
theorem dX11_drift_66 : decode cX11_drift 66 = .ok (.iload 4, 2) := by decide +kernel
theorem dX11_drift_68 : decode cX11_drift 68 = .ok (.iconst 5, 1) := by decide +kernel
theorem dX11_drift_69 : decode cX11_drift 69 = .ok (.invokevirtual 291, 3) := by decide +kernel
theorem dX11_drift_72 : decode cX11_drift 72 = .ok (.iload_n 1, 1) := by decide +kernel
theorem dX11_drift_73 : decode cX11_drift 73 = .ok (.if_icmp .lt 7, 3) := by decide +kernel
theorem dX11_drift_76 : decode cX11_drift 76 = .ok (.iconst 1, 1) := by decide +kernel
theorem dX11_drift_77 : decode cX11_drift 77 = .ok (.goto 4, 3) := by decide +kernel
theorem dX11_drift_80 : decode cX11_drift 80 = .ok (.iconst 0, 1) := by decide +kernel
theorem dX11_drift_81 : decode cX11_drift 81 = .ok (.bastore, 1) := by decide +kernel
theorem dX11_drift_82 : decode cX11_drift 82 = .ok (.iinc 4 1, 3) := by decide +kernel
theorem dX11_drift_85 : decode cX11_drift 85 = .ok (.goto (-45), 3) := by decide +kernel
theorem dX11_drift_88 : decode cX11_drift 88 = .ok (.aload_n 0, 1) := by decide +kernel
theorem dX11_drift_89 : decode cX11_drift 89 = .ok (.invokevirtual 344, 3) := by decide +kernel
theorem dX11_drift_92 : decode cX11_drift 92 = .ok (.ifCond .ne 7, 3) := by decide +kernel
theorem dX11_drift_95 : decode cX11_drift 95 = .ok (.iconst (-1), 1) := by decide +kernel
theorem dX11_drift_96 : decode cX11_drift 96 = .ok (.goto 9, 3) := by decide +kernel
theorem dX11_drift_99 : decode cX11_drift 99 = .ok (.aload_n 0, 1) := by decide +kernel
theorem dX11_drift_100 : decode cX11_drift 100 = .ok (.iload_n 2, 1) := by decide +kernel
theorem dX11_drift_101 : decode cX11_drift 101 = .ok (.iload_n 3, 1) := by decide +kernel
theorem dX11_drift_102 : decode cX11_drift 102 = .ok (.invokevirtual 347, 3) := by decide +kernel
theorem dX11_drift_105 : decode cX11_drift 105 = .ok (.istore 4, 2) := by decide +kernel
theorem dX11_drift_107 : decode cX11_drift 107 = .ok (.iconst 0, 1) := by decide +kernel
theorem dX11_drift_108 : decode cX11_drift 108 = .ok (.istore 5, 2) := by decide +kernel
theorem dX11_drift_110 : decode cX11_drift 110 = .ok (.iload 5, 2) := by decide +kernel
theorem dX11_drift_112 : decode cX11_drift 112 = .ok (.aload_n 0, 1) := by decide +kernel
theorem dX11_drift_113 : decode cX11_drift 113 = .ok (.getfield 302, 3) := by decide +kernel
theorem dX11_drift_116 : decode cX11_drift 116 = .ok (.if_icmp .ge 43, 3) := by decide +kernel
theorem dX11_drift_119 : decode cX11_drift 119 = .ok (.aload_n 0, 1) := by decide +kernel
theorem dX11_drift_120 : decode cX11_drift 120 = .ok (.getfield 114, 3) := by decide +kernel
theorem dX11_drift_123 : decode cX11_drift 123 = .ok (.iload 5, 2) := by decide +kernel
theorem dX11_drift_125 : decode cX11_drift 125 = .ok (.aload_n 0, 1) := by decide +kernel
theorem dX11_drift_126 : decode cX11_drift 126 = .ok (.getfield 124, 3) := by decide +kernel
theorem dX11_drift_129 : decode cX11_drift 129 = .ok (.iload 5, 2) := by decide +kernel
theorem dX11_drift_131 : decode cX11_drift 131 = .ok (.baload, 1) := by decide +kernel
theorem dX11_drift_132 : decode cX11_drift 132 = .ok (.ifCond .eq 19, 3) := by decide +kernel
theorem dX11_drift_135 : decode cX11_drift 135 = .ok (.aload_n 0, 1) := by decide +kernel
theorem dX11_drift_136 : decode cX11_drift 136 = .ok (.iload 5, 2) := by decide +kernel
theorem dX11_drift_138 : decode cX11_drift 138 = .ok (.bipush 6, 2) := by decide +kernel
theorem dX11_drift_140 : decode cX11_drift 140 = .ok (.invokevirtual 291, 3) := by decide +kernel
theorem dX11_drift_143 : decode cX11_drift 143 = .ok (.iload_n 1, 1) := by decide +kernel
theorem dX11_drift_144 : decode cX11_drift 144 = .ok (.if_icmp .ge 7, 3) := by decide +kernel
theorem dX11_drift_147 : decode cX11_drift 147 = .ok (.iconst 1, 1) := by decide +kernel
theorem dX11_drift_148 : decode cX11_drift 148 = .ok (.goto 4, 3) := by decide +kernel
theorem dX11_drift_151 : decode cX11_drift 151 = .ok (.iconst 0, 1) := by decide +kernel
theorem dX11_drift_152 : decode cX11_drift 152 = .ok (.bastore, 1) := by decide +kernel
theorem dX11_drift_153 : decode cX11_drift 153 = .ok (.iinc 5 1, 3) := by decide +kernel
theorem dX11_drift_156 : decode cX11_drift 156 = .ok (.goto (-46), 3) := by decide +kernel
theorem dX11_drift_159 : decode cX11_drift 159 = .ok (.aload_n 0, 1) := by decide +kernel
theorem dX11_drift_160 : decode cX11_drift 160 = .ok (.invokevirtual 344, 3) := by decide +kernel
theorem dX11_drift_163 : decode cX11_drift 163 = .ok (.ifCond .ne 7, 3) := by decide +kernel
theorem dX11_drift_166 : decode cX11_drift 166 = .ok (.iconst (-1), 1) := by decide +kernel
theorem dX11_drift_167 : decode cX11_drift 167 = .ok (.goto 9, 3) := by decide +kernel
theorem dX11_drift_170 : decode cX11_drift 170 = .ok (.aload_n 0, 1) := by decide +kernel
theorem dX11_drift_171 : decode cX11_drift 171 = .ok (.iload_n 2, 1) := by decide +kernel
theorem dX11_drift_172 : decode cX11_drift 172 = .ok (.iload_n 3, 1) := by decide +kernel
theorem dX11_drift_173 : decode cX11_drift 173 = .ok (.invokevirtual 347, 3) := by decide +kernel
theorem dX11_drift_176 : decode cX11_drift 176 = .ok (.istore 5, 2) := by decide +kernel
theorem dX11_drift_178 : decode cX11_drift 178 = .ok (.iload 4, 2) := by decide +kernel
theorem dX11_drift_180 : decode cX11_drift 180 = .ok (.iconst (-1), 1) := by decide +kernel
theorem dX11_drift_181 : decode cX11_drift 181 = .ok (.if_icmp .eq 9, 3) := by decide +kernel
theorem dX11_drift_184 : decode cX11_drift 184 = .ok (.iload 5, 2) := by decide +kernel
theorem dX11_drift_186 : decode cX11_drift 186 = .ok (.iconst (-1), 1) := by decide +kernel
theorem dX11_drift_187 : decode cX11_drift 187 = .ok (.if_icmp .ne 8, 3) := by decide +kernel
theorem dX11_drift_190 : decode cX11_drift 190 = .ok (.ldc 161, 2) := by decide +kernel
theorem dX11_drift_192 : decode cX11_drift 192 = .ok (.goto 8, 3) := by decide +kernel
theorem dX11_drift_195 : decode cX11_drift 195 = .ok (.iload 4, 2) := by decide +kernel
theorem dX11_drift_197 : decode cX11_drift 197 = .ok (.iload 5, 2) := by decide +kernel
theorem dX11_drift_199 : decode cX11_drift 199 = .ok (.isub, 1) := by decide +kernel
theorem dX11_drift_200 : decode cX11_drift 200 = .ok (.ireturn, 1) := by decide +kernel
theorem dX11_owner_0 : decode cX11_owner 0 = .ok (.aload_n 0, 1) := by decide +kernel
theorem dX11_owner_1 : decode cX11_owner 1 = .ok (.iconst 0, 1) := by decide +kernel
theorem dX11_owner_2 : decode cX11_owner 2 = .ok (.putfield 130, 3) := by decide +kernel
theorem dX11_owner_5 : decode cX11_owner 5 = .ok (.iload_n 1, 1) := by decide +kernel
theorem dX11_owner_6 : decode cX11_owner 6 = .ok (.iconst 1, 1) := by decide +kernel
theorem dX11_owner_7 : decode cX11_owner 7 = .ok (.bipush 9, 2) := by decide +kernel
theorem dX11_owner_9 : decode cX11_owner 9 = .ok (.invokestatic 138, 3) := by decide +kernel
theorem dX11_owner_12 : decode cX11_owner 12 = .ok (.ifCond .eq 19, 3) := by decide +kernel
theorem dX11_owner_15 : decode cX11_owner 15 = .ok (.iload_n 2, 1) := by decide +kernel
theorem dX11_owner_16 : decode cX11_owner 16 = .ok (.invokestatic 314, 3) := by decide +kernel
theorem dX11_owner_19 : decode cX11_owner 19 = .ok (.ifCond .eq 12, 3) := by decide +kernel
theorem dX11_owner_22 : decode cX11_owner 22 = .ok (.iload_n 3, 1) := by decide +kernel
theorem dX11_owner_23 : decode cX11_owner 23 = .ok (.iconst 0, 1) := by decide +kernel
theorem dX11_owner_24 : decode cX11_owner 24 = .ok (.iconst 2, 1) := by decide +kernel
theorem dX11_owner_25 : decode cX11_owner 25 = .ok (.invokestatic 138, 3) := by decide +kernel
theorem dX11_owner_28 : decode cX11_owner 28 = .ok (.ifCond .ne 5, 3) := by decide +kernel
theorem dX11_owner_31 : decode cX11_owner 31 = .ok (.iconst (-1), 1) := by decide +kernel
theorem dX11_owner_32 : decode cX11_owner 32 = .ok (.ireturn, 1) := by decide +kernel
theorem dX11_owner_33 : decode cX11_owner 33 = .ok (.aload_n 0, 1) := by decide +kernel
theorem dX11_owner_34 : decode cX11_owner 34 = .ok (.invokevirtual 311, 3) := by decide +kernel
theorem dX11_owner_37 : decode cX11_owner 37 = .ok (.aload_n 0, 1) := by decide +kernel
theorem dX11_owner_38 : decode cX11_owner 38 = .ok (.invokevirtual 364, 3) := by decide +kernel
theorem dX11_owner_41 : decode cX11_owner 41 = .ok (.iconst 0, 1) := by decide +kernel
theorem dX11_owner_42 : decode cX11_owner 42 = .ok (.istore 4, 2) := by decide +kernel
theorem dX11_owner_44 : decode cX11_owner 44 = .ok (.iconst 0, 1) := by decide +kernel
theorem dX11_owner_45 : decode cX11_owner 45 = .ok (.istore 5, 2) := by decide +kernel
theorem dX11_owner_47 : decode cX11_owner 47 = .ok (.iconst 0, 1) := by decide +kernel
theorem dX11_owner_48 : decode cX11_owner 48 = .ok (.istore 6, 2) := by decide +kernel
theorem dX11_owner_50 : decode cX11_owner 50 = .ok (.iload 6, 2) := by decide +kernel
theorem dX11_owner_52 : decode cX11_owner 52 = .ok (.aload_n 0, 1) := by decide +kernel
theorem dX11_owner_53 : decode cX11_owner 53 = .ok (.getfield 302, 3) := by decide +kernel
theorem dX11_owner_56 : decode cX11_owner 56 = .ok (.if_icmp .ge 64, 3) := by decide +kernel
theorem dX11_owner_59 : decode cX11_owner 59 = .ok (.aload_n 0, 1) := by decide +kernel
theorem dX11_owner_60 : decode cX11_owner 60 = .ok (.getfield 114, 3) := by decide +kernel
theorem dX11_owner_63 : decode cX11_owner 63 = .ok (.iload 6, 2) := by decide +kernel
theorem dX11_owner_65 : decode cX11_owner 65 = .ok (.baload, 1) := by decide +kernel
theorem dX11_owner_66 : decode cX11_owner 66 = .ok (.ifCond .eq 48, 3) := by decide +kernel
theorem dX11_owner_69 : decode cX11_owner 69 = .ok (.aload_n 0, 1) := by decide +kernel
theorem dX11_owner_70 : decode cX11_owner 70 = .ok (.iload 6, 2) := by decide +kernel
theorem dX11_owner_72 : decode cX11_owner 72 = .ok (.bipush 8, 2) := by decide +kernel
theorem dX11_owner_74 : decode cX11_owner 74 = .ok (.invokevirtual 291, 3) := by decide +kernel
theorem dX11_owner_77 : decode cX11_owner 77 = .ok (.iload_n 1, 1) := by decide +kernel
theorem dX11_owner_78 : decode cX11_owner 78 = .ok (.if_icmp .ne 36, 3) := by decide +kernel
theorem dX11_owner_81 : decode cX11_owner 81 = .ok (.iinc 4 1, 3) := by decide +kernel
theorem dX11_owner_84 : decode cX11_owner 84 = .ok (.iload 5, 2) := by decide +kernel
theorem dX11_owner_86 : decode cX11_owner 86 = .ok (.bipush 100, 2) := by decide +kernel
theorem dX11_owner_88 : decode cX11_owner 88 = .ok (.aload_n 0, 1) := by decide +kernel
theorem dX11_owner_89 : decode cX11_owner 89 = .ok (.iload 6, 2) := by decide +kernel
theorem dX11_owner_91 : decode cX11_owner 91 = .ok (.iload_n 2, 1) := by decide +kernel
theorem dX11_owner_92 : decode cX11_owner 92 = .ok (.invokevirtual 326, 3) := by decide +kernel
theorem dX11_owner_95 : decode cX11_owner 95 = .ok (.imul, 1) := by decide +kernel
theorem dX11_owner_96 : decode cX11_owner 96 = .ok (.iload_n 2, 1) := by decide +kernel
theorem dX11_owner_97 : decode cX11_owner 97 = .ok (.if_icmp .le 7, 3) := by decide +kernel
theorem dX11_owner_100 : decode cX11_owner 100 = .ok (.iconst 1, 1) := by decide +kernel
theorem dX11_owner_101 : decode cX11_owner 101 = .ok (.goto 4, 3) := by decide +kernel
theorem dX11_owner_104 : decode cX11_owner 104 = .ok (.iconst 0, 1) := by decide +kernel
theorem dX11_owner_105 : decode cX11_owner 105 = .ok (.iadd, 1) := by decide +kernel
theorem dX11_owner_106 : decode cX11_owner 106 = .ok (.istore 5, 2) := by decide +kernel
theorem dX11_owner_108 : decode cX11_owner 108 = .ok (.aload_n 0, 1) := by decide +kernel
theorem dX11_owner_109 : decode cX11_owner 109 = .ok (.iconst 1, 1) := by decide +kernel
theorem dX11_owner_110 : decode cX11_owner 110 = .ok (.iconst 2, 1) := by decide +kernel
theorem dX11_owner_111 : decode cX11_owner 111 = .ok (.invokevirtual 370, 3) := by decide +kernel
theorem dX11_owner_114 : decode cX11_owner 114 = .ok (.iinc 6 1, 3) := by decide +kernel
theorem dX11_owner_117 : decode cX11_owner 117 = .ok (.goto (-67), 3) := by decide +kernel
theorem dX11_owner_120 : decode cX11_owner 120 = .ok (.iload_n 3, 1) := by decide +kernel
theorem dX11_owner_121 : decode cX11_owner 121 = .ok (.ifCond .ne 8, 3) := by decide +kernel
theorem dX11_owner_124 : decode cX11_owner 124 = .ok (.iload 4, 2) := by decide +kernel
theorem dX11_owner_126 : decode cX11_owner 126 = .ok (.goto 20, 3) := by decide +kernel
theorem dX11_owner_129 : decode cX11_owner 129 = .ok (.iload_n 3, 1) := by decide +kernel
theorem dX11_owner_130 : decode cX11_owner 130 = .ok (.iconst 1, 1) := by decide +kernel
theorem dX11_owner_131 : decode cX11_owner 131 = .ok (.if_icmp .ne 8, 3) := by decide +kernel
theorem dX11_owner_134 : decode cX11_owner 134 = .ok (.iload 5, 2) := by decide +kernel
theorem dX11_owner_136 : decode cX11_owner 136 = .ok (.goto 10, 3) := by decide +kernel
theorem dX11_owner_139 : decode cX11_owner 139 = .ok (.aload_n 0, 1) := by decide +kernel
theorem dX11_owner_140 : decode cX11_owner 140 = .ok (.iload 5, 2) := by decide +kernel
theorem dX11_owner_142 : decode cX11_owner 142 = .ok (.invokevirtual 376, 3) := by decide +kernel
theorem dX11_owner_145 : decode cX11_owner 145 = .ok (.l2i, 1) := by decide +kernel
theorem dX11_owner_146 : decode cX11_owner 146 = .ok (.ireturn, 1) := by decide +kernel
theorem dX11_areTwins_0 : decode cX11_areTwins 0 = .ok (.aload_n 0, 1) := by decide +kernel
theorem dX11_areTwins_1 : decode cX11_areTwins 1 = .ok (.iload_n 1, 1) := by decide +kernel
theorem dX11_areTwins_2 : decode cX11_areTwins 2 = .ok (.iconst 0, 1) := by decide +kernel
theorem dX11_areTwins_3 : decode cX11_areTwins 3 = .ok (.invokevirtual 291, 3) := by decide +kernel
theorem dX11_areTwins_6 : decode cX11_areTwins 6 = .ok (.aload_n 0, 1) := by decide +kernel
theorem dX11_areTwins_7 : decode cX11_areTwins 7 = .ok (.iload_n 2, 1) := by decide +kernel
theorem dX11_areTwins_8 : decode cX11_areTwins 8 = .ok (.iconst 0, 1) := by decide +kernel
theorem dX11_areTwins_9 : decode cX11_areTwins 9 = .ok (.invokevirtual 291, 3) := by decide +kernel
theorem dX11_areTwins_12 : decode cX11_areTwins 12 = .ok (.isub, 1) := by decide +kernel
theorem dX11_areTwins_13 : decode cX11_areTwins 13 = .ok (.istore 4, 2) := by decide +kernel
theorem dX11_areTwins_15 : decode cX11_areTwins 15 = .ok (.aload_n 0, 1) := by decide +kernel
theorem dX11_areTwins_16 : decode cX11_areTwins 16 = .ok (.getfield 114, 3) := by decide +kernel
theorem dX11_areTwins_19 : decode cX11_areTwins 19 = .ok (.iload_n 1, 1) := by decide +kernel
theorem dX11_areTwins_20 : decode cX11_areTwins 20 = .ok (.baload, 1) := by decide +kernel
theorem dX11_areTwins_21 : decode cX11_areTwins 21 = .ok (.ifCond .eq 74, 3) := by decide +kernel
theorem dX11_areTwins_24 : decode cX11_areTwins 24 = .ok (.aload_n 0, 1) := by decide +kernel
theorem dX11_areTwins_25 : decode cX11_areTwins 25 = .ok (.getfield 114, 3) := by decide +kernel
theorem dX11_areTwins_28 : decode cX11_areTwins 28 = .ok (.iload_n 2, 1) := by decide +kernel
theorem dX11_areTwins_29 : decode cX11_areTwins 29 = .ok (.baload, 1) := by decide +kernel
theorem dX11_areTwins_30 : decode cX11_areTwins 30 = .ok (.ifCond .eq 65, 3) := by decide +kernel
theorem dX11_areTwins_33 : decode cX11_areTwins 33 = .ok (.aload_n 0, 1) := by decide +kernel
theorem dX11_areTwins_34 : decode cX11_areTwins 34 = .ok (.iload_n 1, 1) := by decide +kernel
theorem dX11_areTwins_35 : decode cX11_areTwins 35 = .ok (.iconst 4, 1) := by decide +kernel
theorem dX11_areTwins_36 : decode cX11_areTwins 36 = .ok (.invokevirtual 291, 3) := by decide +kernel
theorem dX11_areTwins_39 : decode cX11_areTwins 39 = .ok (.aload_n 0, 1) := by decide +kernel
theorem dX11_areTwins_40 : decode cX11_areTwins 40 = .ok (.iload_n 2, 1) := by decide +kernel
theorem dX11_areTwins_41 : decode cX11_areTwins 41 = .ok (.iconst 4, 1) := by decide +kernel
theorem dX11_areTwins_42 : decode cX11_areTwins 42 = .ok (.invokevirtual 291, 3) := by decide +kernel
theorem dX11_areTwins_45 : decode cX11_areTwins 45 = .ok (.if_icmp .ne 50, 3) := by decide +kernel
theorem dX11_areTwins_48 : decode cX11_areTwins 48 = .ok (.aload_n 0, 1) := by decide +kernel
theorem dX11_areTwins_49 : decode cX11_areTwins 49 = .ok (.iload_n 1, 1) := by decide +kernel
theorem dX11_areTwins_50 : decode cX11_areTwins 50 = .ok (.iconst 1, 1) := by decide +kernel
theorem dX11_areTwins_51 : decode cX11_areTwins 51 = .ok (.invokevirtual 291, 3) := by decide +kernel
theorem dX11_areTwins_54 : decode cX11_areTwins 54 = .ok (.aload_n 0, 1) := by decide +kernel
theorem dX11_areTwins_55 : decode cX11_areTwins 55 = .ok (.iload_n 2, 1) := by decide +kernel
theorem dX11_areTwins_56 : decode cX11_areTwins 56 = .ok (.iconst 1, 1) := by decide +kernel
theorem dX11_areTwins_57 : decode cX11_areTwins 57 = .ok (.invokevirtual 291, 3) := by decide +kernel
theorem dX11_areTwins_60 : decode cX11_areTwins 60 = .ok (.if_icmp .ne 35, 3) := by decide +kernel
theorem dX11_areTwins_63 : decode cX11_areTwins 63 = .ok (.aload_n 0, 1) := by decide +kernel
theorem dX11_areTwins_64 : decode cX11_areTwins 64 = .ok (.iload_n 1, 1) := by decide +kernel
theorem dX11_areTwins_65 : decode cX11_areTwins 65 = .ok (.bipush 7, 2) := by decide +kernel
theorem dX11_areTwins_67 : decode cX11_areTwins 67 = .ok (.invokevirtual 291, 3) := by decide +kernel
theorem dX11_areTwins_70 : decode cX11_areTwins 70 = .ok (.aload_n 0, 1) := by decide +kernel
theorem dX11_areTwins_71 : decode cX11_areTwins 71 = .ok (.iload_n 2, 1) := by decide +kernel
theorem dX11_areTwins_72 : decode cX11_areTwins 72 = .ok (.bipush 7, 2) := by decide +kernel
theorem dX11_areTwins_74 : decode cX11_areTwins 74 = .ok (.invokevirtual 291, 3) := by decide +kernel
theorem dX11_areTwins_77 : decode cX11_areTwins 77 = .ok (.if_icmp .ne 18, 3) := by decide +kernel
theorem dX11_areTwins_80 : decode cX11_areTwins 80 = .ok (.iload 4, 2) := by decide +kernel
theorem dX11_areTwins_82 : decode cX11_areTwins 82 = .ok (.iload_n 3, 1) := by decide +kernel
theorem dX11_areTwins_83 : decode cX11_areTwins 83 = .ok (.ineg, 1) := by decide +kernel
theorem dX11_areTwins_84 : decode cX11_areTwins 84 = .ok (.iload_n 3, 1) := by decide +kernel
theorem dX11_areTwins_85 : decode cX11_areTwins 85 = .ok (.invokestatic 138, 3) := by decide +kernel
theorem dX11_areTwins_88 : decode cX11_areTwins 88 = .ok (.ifCond .eq 7, 3) := by decide +kernel
theorem dX11_areTwins_91 : decode cX11_areTwins 91 = .ok (.iconst 1, 1) := by decide +kernel
theorem dX11_areTwins_92 : decode cX11_areTwins 92 = .ok (.goto 4, 3) := by decide +kernel
theorem dX11_areTwins_95 : decode cX11_areTwins 95 = .ok (.iconst 0, 1) := by decide +kernel
theorem dX11_areTwins_96 : decode cX11_areTwins 96 = .ok (.ireturn, 1) := by decide +kernel
theorem dX11_heap_0 : decode cX11_heap 0 = .ok (.aload_n 0, 1) := by decide +kernel
theorem dX11_heap_1 : decode cX11_heap 1 = .ok (.iconst 0, 1) := by decide +kernel
theorem dX11_heap_2 : decode cX11_heap 2 = .ok (.putfield 130, 3) := by decide +kernel
theorem dX11_heap_5 : decode cX11_heap 5 = .ok (.aload_n 0, 1) := by decide +kernel
theorem dX11_heap_6 : decode cX11_heap 6 = .ok (.iload_n 1, 1) := by decide +kernel
theorem dX11_heap_7 : decode cX11_heap 7 = .ok (.invokevirtual 157, 3) := by decide +kernel
theorem dX11_heap_10 : decode cX11_heap 10 = .ok (.ifCond .eq 14, 3) := by decide +kernel
theorem dX11_heap_13 : decode cX11_heap 13 = .ok (.iload_n 2, 1) := by decide +kernel
theorem dX11_heap_14 : decode cX11_heap 14 = .ok (.iconst 0, 1) := by decide +kernel
theorem dX11_heap_15 : decode cX11_heap 15 = .ok (.sipush 500, 3) := by decide +kernel
theorem dX11_heap_18 : decode cX11_heap 18 = .ok (.invokestatic 138, 3) := by decide +kernel
theorem dX11_heap_21 : decode cX11_heap 21 = .ok (.ifCond .ne 5, 3) := by decide +kernel
theorem dX11_heap_24 : decode cX11_heap 24 = .ok (.iconst (-1), 1) := by decide +kernel
theorem dX11_heap_25 : decode cX11_heap 25 = .ok (.ireturn, 1) := by decide +kernel
theorem dX11_heap_26 : decode cX11_heap 26 = .ok (.aload_n 0, 1) := by decide +kernel
theorem dX11_heap_27 : decode cX11_heap 27 = .ok (.invokevirtual 311, 3) := by decide +kernel
theorem dX11_heap_30 : decode cX11_heap 30 = .ok (.aload_n 0, 1) := by decide +kernel
theorem dX11_heap_31 : decode cX11_heap 31 = .ok (.getfield 114, 3) := by decide +kernel
theorem dX11_heap_34 : decode cX11_heap 34 = .ok (.iload_n 1, 1) := by decide +kernel
theorem dX11_heap_35 : decode cX11_heap 35 = .ok (.baload, 1) := by decide +kernel
theorem dX11_heap_36 : decode cX11_heap 36 = .ok (.ifCond .ne 5, 3) := by decide +kernel
theorem dX11_heap_39 : decode cX11_heap 39 = .ok (.iconst (-1), 1) := by decide +kernel
theorem dX11_heap_40 : decode cX11_heap 40 = .ok (.ireturn, 1) := by decide +kernel
theorem dX11_heap_41 : decode cX11_heap 41 = .ok (.iconst 1, 1) := by decide +kernel
theorem dX11_heap_42 : decode cX11_heap 42 = .ok (.iload_n 1, 1) := by decide +kernel
theorem dX11_heap_43 : decode cX11_heap 43 = .ok (.ishl, 1) := by decide +kernel
theorem dX11_heap_44 : decode cX11_heap 44 = .ok (.istore_n 3, 1) := by decide +kernel
theorem dX11_heap_45 : decode cX11_heap 45 = .ok (.iconst 0, 1) := by decide +kernel
theorem dX11_heap_46 : decode cX11_heap 46 = .ok (.istore 4, 2) := by decide +kernel
theorem dX11_heap_48 : decode cX11_heap 48 = .ok (.iload 4, 2) := by decide +kernel
theorem dX11_heap_50 : decode cX11_heap 50 = .ok (.iload_n 3, 1) := by decide +kernel
theorem dX11_heap_51 : decode cX11_heap 51 = .ok (.if_icmp .eq 77, 3) := by decide +kernel
theorem dX11_heap_54 : decode cX11_heap 54 = .ok (.iload_n 3, 1) := by decide +kernel
theorem dX11_heap_55 : decode cX11_heap 55 = .ok (.istore 4, 2) := by decide +kernel
theorem dX11_heap_57 : decode cX11_heap 57 = .ok (.iconst 0, 1) := by decide +kernel
theorem dX11_heap_58 : decode cX11_heap 58 = .ok (.istore 5, 2) := by decide +kernel
theorem dX11_heap_60 : decode cX11_heap 60 = .ok (.iload 5, 2) := by decide +kernel
theorem dX11_heap_62 : decode cX11_heap 62 = .ok (.aload_n 0, 1) := by decide +kernel
theorem dX11_heap_63 : decode cX11_heap 63 = .ok (.getfield 302, 3) := by decide +kernel
theorem dX11_heap_66 : decode cX11_heap 66 = .ok (.if_icmp .ge 59, 3) := by decide +kernel
theorem dX11_heap_69 : decode cX11_heap 69 = .ok (.iconst 0, 1) := by decide +kernel
theorem dX11_heap_70 : decode cX11_heap 70 = .ok (.istore 6, 2) := by decide +kernel
theorem dX11_heap_72 : decode cX11_heap 72 = .ok (.iload 6, 2) := by decide +kernel
theorem dX11_heap_74 : decode cX11_heap 74 = .ok (.aload_n 0, 1) := by decide +kernel
theorem dX11_heap_75 : decode cX11_heap 75 = .ok (.getfield 302, 3) := by decide +kernel
theorem dX11_heap_78 : decode cX11_heap 78 = .ok (.if_icmp .ge 41, 3) := by decide +kernel
theorem dX11_heap_81 : decode cX11_heap 81 = .ok (.iload_n 3, 1) := by decide +kernel
theorem dX11_heap_82 : decode cX11_heap 82 = .ok (.iload_n 3, 1) := by decide +kernel
theorem dX11_heap_83 : decode cX11_heap 83 = .ok (.iload 5, 2) := by decide +kernel
theorem dX11_heap_85 : decode cX11_heap 85 = .ok (.ishr, 1) := by decide +kernel
theorem dX11_heap_86 : decode cX11_heap 86 = .ok (.iconst 1, 1) := by decide +kernel
theorem dX11_heap_87 : decode cX11_heap 87 = .ok (.iand, 1) := by decide +kernel
theorem dX11_heap_88 : decode cX11_heap 88 = .ok (.ifCond .eq 22, 3) := by decide +kernel
theorem dX11_heap_91 : decode cX11_heap 91 = .ok (.aload_n 0, 1) := by decide +kernel
theorem dX11_heap_92 : decode cX11_heap 92 = .ok (.iload 5, 2) := by decide +kernel
theorem dX11_heap_94 : decode cX11_heap 94 = .ok (.iload 6, 2) := by decide +kernel
theorem dX11_heap_96 : decode cX11_heap 96 = .ok (.iload_n 2, 1) := by decide +kernel
theorem dX11_heap_97 : decode cX11_heap 97 = .ok (.invokevirtual 406, 3) := by decide +kernel
theorem dX11_heap_100 : decode cX11_heap 100 = .ok (.ifCond .eq 10, 3) := by decide +kernel
theorem dX11_heap_103 : decode cX11_heap 103 = .ok (.iconst 1, 1) := by decide +kernel
theorem dX11_heap_104 : decode cX11_heap 104 = .ok (.iload 6, 2) := by decide +kernel
theorem dX11_heap_106 : decode cX11_heap 106 = .ok (.ishl, 1) := by decide +kernel
theorem dX11_heap_107 : decode cX11_heap 107 = .ok (.goto 4, 3) := by decide +kernel
theorem dX11_heap_110 : decode cX11_heap 110 = .ok (.iconst 0, 1) := by decide +kernel
theorem dX11_heap_111 : decode cX11_heap 111 = .ok (.ior, 1) := by decide +kernel
theorem dX11_heap_112 : decode cX11_heap 112 = .ok (.istore_n 3, 1) := by decide +kernel
theorem dX11_heap_113 : decode cX11_heap 113 = .ok (.iinc 6 1, 3) := by decide +kernel
theorem dX11_heap_116 : decode cX11_heap 116 = .ok (.goto (-44), 3) := by decide +kernel
theorem dX11_heap_119 : decode cX11_heap 119 = .ok (.iinc 5 1, 3) := by decide +kernel
theorem dX11_heap_122 : decode cX11_heap 122 = .ok (.goto (-62), 3) := by decide +kernel
theorem dX11_heap_125 : decode cX11_heap 125 = .ok (.goto (-77), 3) := by decide +kernel
theorem dX11_heap_128 : decode cX11_heap 128 = .ok (.iconst 0, 1) := by decide +kernel
theorem dX11_heap_129 : decode cX11_heap 129 = .ok (.istore 5, 2) := by decide +kernel
theorem dX11_heap_131 : decode cX11_heap 131 = .ok (.iload_n 3, 1) := by decide +kernel
theorem dX11_heap_132 : decode cX11_heap 132 = .ok (.iload 5, 2) := by decide +kernel
theorem dX11_heap_134 : decode cX11_heap 134 = .ok (.ishr, 1) := by decide +kernel
theorem dX11_heap_135 : decode cX11_heap 135 = .ok (.iconst 1, 1) := by decide +kernel
theorem dX11_heap_136 : decode cX11_heap 136 = .ok (.iand, 1) := by decide +kernel
theorem dX11_heap_137 : decode cX11_heap 137 = .ok (.ifCond .ne 9, 3) := by decide +kernel
theorem dX11_heap_140 : decode cX11_heap 140 = .ok (.iinc 5 1, 3) := by decide +kernel
theorem dX11_heap_143 : decode cX11_heap 143 = .ok (.goto (-12), 3) := by decide +kernel
theorem dX11_heap_146 : decode cX11_heap 146 = .ok (.iload 5, 2) := by decide +kernel
theorem dX11_heap_148 : decode cX11_heap 148 = .ok (.ireturn, 1) := by decide +kernel
theorem dX11_worthOf_0 : decode cX11_worthOf 0 = .ok (.aload_n 0, 1) := by decide +kernel
theorem dX11_worthOf_1 : decode cX11_worthOf 1 = .ok (.getfield 108, 3) := by decide +kernel
theorem dX11_worthOf_4 : decode cX11_worthOf 4 = .ok (.iload_n 1, 1) := by decide +kernel
theorem dX11_worthOf_5 : decode cX11_worthOf 5 = .ok (.iaload, 1) := by decide +kernel
theorem dX11_worthOf_6 : decode cX11_worthOf 6 = .ok (.istore 4, 2) := by decide +kernel
theorem dX11_worthOf_8 : decode cX11_worthOf 8 = .ok (.aload_n 0, 1) := by decide +kernel
theorem dX11_worthOf_9 : decode cX11_worthOf 9 = .ok (.getfield 111, 3) := by decide +kernel
theorem dX11_worthOf_12 : decode cX11_worthOf 12 = .ok (.iload_n 1, 1) := by decide +kernel
theorem dX11_worthOf_13 : decode cX11_worthOf 13 = .ok (.iaload, 1) := by decide +kernel
theorem dX11_worthOf_14 : decode cX11_worthOf 14 = .ok (.istore 5, 2) := by decide +kernel
theorem dX11_worthOf_16 : decode cX11_worthOf 16 = .ok (.aload_n 0, 1) := by decide +kernel
theorem dX11_worthOf_17 : decode cX11_worthOf 17 = .ok (.getfield 111, 3) := by decide +kernel
theorem dX11_worthOf_20 : decode cX11_worthOf 20 = .ok (.iload_n 1, 1) := by decide +kernel
theorem dX11_worthOf_21 : decode cX11_worthOf 21 = .ok (.iload 4, 2) := by decide +kernel
theorem dX11_worthOf_23 : decode cX11_worthOf 23 = .ok (.iastore, 1) := by decide +kernel
theorem dX11_worthOf_24 : decode cX11_worthOf 24 = .ok (.aload_n 0, 1) := by decide +kernel
theorem dX11_worthOf_25 : decode cX11_worthOf 25 = .ok (.iload_n 2, 1) := by decide +kernel
theorem dX11_worthOf_26 : decode cX11_worthOf 26 = .ok (.iload_n 3, 1) := by decide +kernel
theorem dX11_worthOf_27 : decode cX11_worthOf 27 = .ok (.invokevirtual 347, 3) := by decide +kernel
theorem dX11_worthOf_30 : decode cX11_worthOf 30 = .ok (.istore 6, 2) := by decide +kernel
theorem dX11_worthOf_32 : decode cX11_worthOf 32 = .ok (.aload_n 0, 1) := by decide +kernel
theorem dX11_worthOf_33 : decode cX11_worthOf 33 = .ok (.getfield 108, 3) := by decide +kernel
theorem dX11_worthOf_36 : decode cX11_worthOf 36 = .ok (.iload_n 1, 1) := by decide +kernel
theorem dX11_worthOf_37 : decode cX11_worthOf 37 = .ok (.iload 5, 2) := by decide +kernel
theorem dX11_worthOf_39 : decode cX11_worthOf 39 = .ok (.iastore, 1) := by decide +kernel
theorem dX11_worthOf_40 : decode cX11_worthOf 40 = .ok (.aload_n 0, 1) := by decide +kernel
theorem dX11_worthOf_41 : decode cX11_worthOf 41 = .ok (.getfield 111, 3) := by decide +kernel
theorem dX11_worthOf_44 : decode cX11_worthOf 44 = .ok (.iload_n 1, 1) := by decide +kernel
theorem dX11_worthOf_45 : decode cX11_worthOf 45 = .ok (.iload 5, 2) := by decide +kernel
theorem dX11_worthOf_47 : decode cX11_worthOf 47 = .ok (.iastore, 1) := by decide +kernel
theorem dX11_worthOf_48 : decode cX11_worthOf 48 = .ok (.aload_n 0, 1) := by decide +kernel
theorem dX11_worthOf_49 : decode cX11_worthOf 49 = .ok (.iload_n 2, 1) := by decide +kernel
theorem dX11_worthOf_50 : decode cX11_worthOf 50 = .ok (.iload_n 3, 1) := by decide +kernel
theorem dX11_worthOf_51 : decode cX11_worthOf 51 = .ok (.invokevirtual 347, 3) := by decide +kernel
theorem dX11_worthOf_54 : decode cX11_worthOf 54 = .ok (.istore 7, 2) := by decide +kernel
theorem dX11_worthOf_56 : decode cX11_worthOf 56 = .ok (.aload_n 0, 1) := by decide +kernel
theorem dX11_worthOf_57 : decode cX11_worthOf 57 = .ok (.getfield 108, 3) := by decide +kernel
theorem dX11_worthOf_60 : decode cX11_worthOf 60 = .ok (.iload_n 1, 1) := by decide +kernel
theorem dX11_worthOf_61 : decode cX11_worthOf 61 = .ok (.iload 4, 2) := by decide +kernel
theorem dX11_worthOf_63 : decode cX11_worthOf 63 = .ok (.iastore, 1) := by decide +kernel
theorem dX11_worthOf_64 : decode cX11_worthOf 64 = .ok (.iload 6, 2) := by decide +kernel
theorem dX11_worthOf_66 : decode cX11_worthOf 66 = .ok (.iload 7, 2) := by decide +kernel
theorem dX11_worthOf_68 : decode cX11_worthOf 68 = .ok (.if_icmp .ge 11, 3) := by decide +kernel
theorem dX11_worthOf_71 : decode cX11_worthOf 71 = .ok (.iload 7, 2) := by decide +kernel
theorem dX11_worthOf_73 : decode cX11_worthOf 73 = .ok (.iload 6, 2) := by decide +kernel
theorem dX11_worthOf_75 : decode cX11_worthOf 75 = .ok (.isub, 1) := by decide +kernel
theorem dX11_worthOf_76 : decode cX11_worthOf 76 = .ok (.goto 8, 3) := by decide +kernel
theorem dX11_worthOf_79 : decode cX11_worthOf 79 = .ok (.iload 6, 2) := by decide +kernel
theorem dX11_worthOf_81 : decode cX11_worthOf 81 = .ok (.iload 7, 2) := by decide +kernel
theorem dX11_worthOf_83 : decode cX11_worthOf 83 = .ok (.isub, 1) := by decide +kernel
theorem dX11_worthOf_84 : decode cX11_worthOf 84 = .ok (.ireturn, 1) := by decide +kernel
theorem dX11_anew_0 : decode cX11_anew 0 = .ok (.aload_n 0, 1) := by decide +kernel
theorem dX11_anew_1 : decode cX11_anew 1 = .ok (.iconst 0, 1) := by decide +kernel
theorem dX11_anew_2 : decode cX11_anew 2 = .ok (.putfield 130, 3) := by decide +kernel
theorem dX11_anew_5 : decode cX11_anew 5 = .ok (.iload_n 1, 1) := by decide +kernel
theorem dX11_anew_6 : decode cX11_anew 6 = .ok (.iload_n 2, 1) := by decide +kernel
theorem dX11_anew_7 : decode cX11_anew 7 = .ok (.invokestatic 340, 3) := by decide +kernel
theorem dX11_anew_10 : decode cX11_anew 10 = .ok (.ifCond .ne 5, 3) := by decide +kernel
theorem dX11_anew_13 : decode cX11_anew 13 = .ok (.iconst (-1), 1) := by decide +kernel
theorem dX11_anew_14 : decode cX11_anew 14 = .ok (.ireturn, 1) := by decide +kernel
theorem dX11_anew_15 : decode cX11_anew 15 = .ok (.aload_n 0, 1) := by decide +kernel
theorem dX11_anew_16 : decode cX11_anew 16 = .ok (.invokevirtual 311, 3) := by decide +kernel
theorem dX11_anew_19 : decode cX11_anew 19 = .ok (.iconst (-1), 1) := by decide +kernel
theorem dX11_anew_20 : decode cX11_anew 20 = .ok (.istore_n 3, 1) := by decide +kernel
theorem dX11_anew_21 : decode cX11_anew 21 = .ok (.iconst (-1), 1) := by decide +kernel
theorem dX11_anew_22 : decode cX11_anew 22 = .ok (.istore 4, 2) := by decide +kernel
theorem dX11_anew_24 : decode cX11_anew 24 = .ok (.iconst 0, 1) := by decide +kernel
theorem dX11_anew_25 : decode cX11_anew 25 = .ok (.istore 5, 2) := by decide +kernel
theorem dX11_anew_27 : decode cX11_anew 27 = .ok (.iload 5, 2) := by decide +kernel
theorem dX11_anew_29 : decode cX11_anew 29 = .ok (.aload_n 0, 1) := by decide +kernel
theorem dX11_anew_30 : decode cX11_anew 30 = .ok (.getfield 302, 3) := by decide +kernel
theorem dX11_anew_33 : decode cX11_anew 33 = .ok (.if_icmp .ge 43, 3) := by decide +kernel
theorem dX11_anew_36 : decode cX11_anew 36 = .ok (.aload_n 0, 1) := by decide +kernel
theorem dX11_anew_37 : decode cX11_anew 37 = .ok (.getfield 114, 3) := by decide +kernel
theorem dX11_anew_40 : decode cX11_anew 40 = .ok (.iload 5, 2) := by decide +kernel
theorem dX11_anew_42 : decode cX11_anew 42 = .ok (.baload, 1) := by decide +kernel
theorem dX11_anew_43 : decode cX11_anew 43 = .ok (.ifCond .eq 27, 3) := by decide +kernel
theorem dX11_anew_46 : decode cX11_anew 46 = .ok (.aload_n 0, 1) := by decide +kernel
theorem dX11_anew_47 : decode cX11_anew 47 = .ok (.iload 5, 2) := by decide +kernel
theorem dX11_anew_49 : decode cX11_anew 49 = .ok (.iload_n 1, 1) := by decide +kernel
theorem dX11_anew_50 : decode cX11_anew 50 = .ok (.iload_n 2, 1) := by decide +kernel
theorem dX11_anew_51 : decode cX11_anew 51 = .ok (.invokevirtual 409, 3) := by decide +kernel
theorem dX11_anew_54 : decode cX11_anew 54 = .ok (.istore 6, 2) := by decide +kernel
theorem dX11_anew_56 : decode cX11_anew 56 = .ok (.iload 6, 2) := by decide +kernel
theorem dX11_anew_58 : decode cX11_anew 58 = .ok (.iload 4, 2) := by decide +kernel
theorem dX11_anew_60 : decode cX11_anew 60 = .ok (.if_icmp .le 10, 3) := by decide +kernel
theorem dX11_anew_63 : decode cX11_anew 63 = .ok (.iload 6, 2) := by decide +kernel
theorem dX11_anew_65 : decode cX11_anew 65 = .ok (.istore 4, 2) := by decide +kernel
theorem dX11_anew_67 : decode cX11_anew 67 = .ok (.iload 5, 2) := by decide +kernel
theorem dX11_anew_69 : decode cX11_anew 69 = .ok (.istore_n 3, 1) := by decide +kernel
theorem dX11_anew_70 : decode cX11_anew 70 = .ok (.iinc 5 1, 3) := by decide +kernel
theorem dX11_anew_73 : decode cX11_anew 73 = .ok (.goto (-46), 3) := by decide +kernel
theorem dX11_anew_76 : decode cX11_anew 76 = .ok (.iload_n 3, 1) := by decide +kernel
theorem dX11_anew_77 : decode cX11_anew 77 = .ok (.ireturn, 1) := by decide +kernel
theorem dX11_worth_0 : decode cX11_worth 0 = .ok (.aload_n 0, 1) := by decide +kernel
theorem dX11_worth_1 : decode cX11_worth 1 = .ok (.iconst 0, 1) := by decide +kernel
theorem dX11_worth_2 : decode cX11_worth 2 = .ok (.putfield 130, 3) := by decide +kernel
theorem dX11_worth_5 : decode cX11_worth 5 = .ok (.aload_n 0, 1) := by decide +kernel
theorem dX11_worth_6 : decode cX11_worth 6 = .ok (.iload_n 1, 1) := by decide +kernel
theorem dX11_worth_7 : decode cX11_worth 7 = .ok (.invokevirtual 157, 3) := by decide +kernel
theorem dX11_worth_10 : decode cX11_worth 10 = .ok (.ifCond .eq 11, 3) := by decide +kernel
theorem dX11_worth_13 : decode cX11_worth 13 = .ok (.iload_n 2, 1) := by decide +kernel
theorem dX11_worth_14 : decode cX11_worth 14 = .ok (.iload_n 3, 1) := by decide +kernel
theorem dX11_worth_15 : decode cX11_worth 15 = .ok (.invokestatic 340, 3) := by decide +kernel
theorem dX11_worth_18 : decode cX11_worth 18 = .ok (.ifCond .ne 5, 3) := by decide +kernel
theorem dX11_worth_21 : decode cX11_worth 21 = .ok (.iconst (-1), 1) := by decide +kernel
theorem dX11_worth_22 : decode cX11_worth 22 = .ok (.ireturn, 1) := by decide +kernel
theorem dX11_worth_23 : decode cX11_worth 23 = .ok (.aload_n 0, 1) := by decide +kernel
theorem dX11_worth_24 : decode cX11_worth 24 = .ok (.invokevirtual 311, 3) := by decide +kernel
theorem dX11_worth_27 : decode cX11_worth 27 = .ok (.aload_n 0, 1) := by decide +kernel
theorem dX11_worth_28 : decode cX11_worth 28 = .ok (.getfield 114, 3) := by decide +kernel
theorem dX11_worth_31 : decode cX11_worth 31 = .ok (.iload_n 1, 1) := by decide +kernel
theorem dX11_worth_32 : decode cX11_worth 32 = .ok (.baload, 1) := by decide +kernel
theorem dX11_worth_33 : decode cX11_worth 33 = .ok (.ifCond .eq 13, 3) := by decide +kernel
theorem dX11_worth_36 : decode cX11_worth 36 = .ok (.aload_n 0, 1) := by decide +kernel
theorem dX11_worth_37 : decode cX11_worth 37 = .ok (.iload_n 1, 1) := by decide +kernel
theorem dX11_worth_38 : decode cX11_worth 38 = .ok (.iload_n 2, 1) := by decide +kernel
theorem dX11_worth_39 : decode cX11_worth 39 = .ok (.iload_n 3, 1) := by decide +kernel
theorem dX11_worth_40 : decode cX11_worth 40 = .ok (.invokevirtual 409, 3) := by decide +kernel
theorem dX11_worth_43 : decode cX11_worth 43 = .ok (.goto 4, 3) := by decide +kernel
theorem dX11_worth_46 : decode cX11_worth 46 = .ok (.iconst (-1), 1) := by decide +kernel
theorem dX11_worth_47 : decode cX11_worth 47 = .ok (.ireturn, 1) := by decide +kernel
theorem dX11_count_0 : decode cX11_count 0 = .ok (.aload_n 0, 1) := by decide +kernel
theorem dX11_count_1 : decode cX11_count 1 = .ok (.iconst 0, 1) := by decide +kernel
theorem dX11_count_2 : decode cX11_count 2 = .ok (.putfield 130, 3) := by decide +kernel
theorem dX11_count_5 : decode cX11_count 5 = .ok (.aload_n 0, 1) := by decide +kernel
theorem dX11_count_6 : decode cX11_count 6 = .ok (.invokevirtual 311, 3) := by decide +kernel
theorem dX11_count_9 : decode cX11_count 9 = .ok (.iconst 0, 1) := by decide +kernel
theorem dX11_count_10 : decode cX11_count 10 = .ok (.istore_n 2, 1) := by decide +kernel
theorem dX11_count_11 : decode cX11_count 11 = .ok (.iload_n 1, 1) := by decide +kernel
theorem dX11_count_12 : decode cX11_count 12 = .ok (.tableswitch 119 0 6 #[44, 79, 84, 91, 98, 105, 112], 44) := by decide +kernel
theorem dX11_count_56 : decode cX11_count 56 = .ok (.iconst 0, 1) := by decide +kernel
theorem dX11_count_57 : decode cX11_count 57 = .ok (.istore_n 3, 1) := by decide +kernel
theorem dX11_count_58 : decode cX11_count 58 = .ok (.iload_n 3, 1) := by decide +kernel
theorem dX11_count_59 : decode cX11_count 59 = .ok (.aload_n 0, 1) := by decide +kernel
theorem dX11_count_60 : decode cX11_count 60 = .ok (.getfield 302, 3) := by decide +kernel
theorem dX11_count_63 : decode cX11_count 63 = .ok (.if_icmp .ge 26, 3) := by decide +kernel
theorem dX11_count_66 : decode cX11_count 66 = .ok (.iload_n 2, 1) := by decide +kernel
theorem dX11_count_67 : decode cX11_count 67 = .ok (.aload_n 0, 1) := by decide +kernel
theorem dX11_count_68 : decode cX11_count 68 = .ok (.getfield 101, 3) := by decide +kernel
theorem dX11_count_71 : decode cX11_count 71 = .ok (.iload_n 3, 1) := by decide +kernel
theorem dX11_count_72 : decode cX11_count 72 = .ok (.baload, 1) := by decide +kernel
theorem dX11_count_73 : decode cX11_count 73 = .ok (.ifCond .eq 7, 3) := by decide +kernel
theorem dX11_count_76 : decode cX11_count 76 = .ok (.iconst 1, 1) := by decide +kernel
theorem dX11_count_77 : decode cX11_count 77 = .ok (.goto 4, 3) := by decide +kernel
theorem dX11_count_80 : decode cX11_count 80 = .ok (.iconst 0, 1) := by decide +kernel
theorem dX11_count_81 : decode cX11_count 81 = .ok (.iadd, 1) := by decide +kernel
theorem dX11_count_82 : decode cX11_count 82 = .ok (.istore_n 2, 1) := by decide +kernel
theorem dX11_count_83 : decode cX11_count 83 = .ok (.iinc 3 1, 3) := by decide +kernel
theorem dX11_count_86 : decode cX11_count 86 = .ok (.goto (-28), 3) := by decide +kernel
theorem dX11_count_89 : decode cX11_count 89 = .ok (.iload_n 2, 1) := by decide +kernel
theorem dX11_count_90 : decode cX11_count 90 = .ok (.ireturn, 1) := by decide +kernel
theorem dX11_count_91 : decode cX11_count 91 = .ok (.aload_n 0, 1) := by decide +kernel
theorem dX11_count_92 : decode cX11_count 92 = .ok (.invokevirtual 344, 3) := by decide +kernel
theorem dX11_count_95 : decode cX11_count 95 = .ok (.ireturn, 1) := by decide +kernel
theorem dX11_count_96 : decode cX11_count 96 = .ok (.aload_n 0, 1) := by decide +kernel
theorem dX11_count_97 : decode cX11_count 97 = .ok (.getfield 32, 3) := by decide +kernel
theorem dX11_count_100 : decode cX11_count 100 = .ok (.iconst 0, 1) := by decide +kernel
theorem dX11_count_101 : decode cX11_count 101 = .ok (.iaload, 1) := by decide +kernel
theorem dX11_count_102 : decode cX11_count 102 = .ok (.ireturn, 1) := by decide +kernel
theorem dX11_count_103 : decode cX11_count 103 = .ok (.aload_n 0, 1) := by decide +kernel
theorem dX11_count_104 : decode cX11_count 104 = .ok (.getfield 26, 3) := by decide +kernel
end
section
theorem dX11_count_107 : decode cX11_count 107 = .ok (.iconst 0, 1) := by decide +kernel
theorem dX11_count_108 : decode cX11_count 108 = .ok (.iaload, 1) := by decide +kernel
theorem dX11_count_109 : decode cX11_count 109 = .ok (.ireturn, 1) := by decide +kernel
theorem dX11_count_110 : decode cX11_count 110 = .ok (.aload_n 0, 1) := by decide +kernel
theorem dX11_count_111 : decode cX11_count 111 = .ok (.getfield 29, 3) := by decide +kernel
theorem dX11_count_114 : decode cX11_count 114 = .ok (.iconst 0, 1) := by decide +kernel
theorem dX11_count_115 : decode cX11_count 115 = .ok (.iaload, 1) := by decide +kernel
theorem dX11_count_116 : decode cX11_count 116 = .ok (.ireturn, 1) := by decide +kernel
theorem dX11_count_117 : decode cX11_count 117 = .ok (.aload_n 0, 1) := by decide +kernel
theorem dX11_count_118 : decode cX11_count 118 = .ok (.getfield 53, 3) := by decide +kernel
theorem dX11_count_121 : decode cX11_count 121 = .ok (.iconst 0, 1) := by decide +kernel
theorem dX11_count_122 : decode cX11_count 122 = .ok (.iaload, 1) := by decide +kernel
theorem dX11_count_123 : decode cX11_count 123 = .ok (.ireturn, 1) := by decide +kernel
theorem dX11_count_124 : decode cX11_count 124 = .ok (.aload_n 0, 1) := by decide +kernel
theorem dX11_count_125 : decode cX11_count 125 = .ok (.getfield 53, 3) := by decide +kernel
theorem dX11_count_128 : decode cX11_count 128 = .ok (.iconst 1, 1) := by decide +kernel
theorem dX11_count_129 : decode cX11_count 129 = .ok (.iaload, 1) := by decide +kernel
theorem dX11_count_130 : decode cX11_count 130 = .ok (.ireturn, 1) := by decide +kernel
theorem dX11_count_131 : decode cX11_count 131 = .ok (.iconst 0, 1) := by decide +kernel
theorem dX11_count_132 : decode cX11_count 132 = .ok (.istore_n 3, 1) := by decide +kernel
theorem dX11_count_133 : decode cX11_count 133 = .ok (.iload_n 3, 1) := by decide +kernel
theorem dX11_count_134 : decode cX11_count 134 = .ok (.aload_n 0, 1) := by decide +kernel
theorem dX11_count_135 : decode cX11_count 135 = .ok (.getfield 302, 3) := by decide +kernel
theorem dX11_count_138 : decode cX11_count 138 = .ok (.if_icmp .ge 39, 3) := by decide +kernel
theorem dX11_count_141 : decode cX11_count 141 = .ok (.iload_n 2, 1) := by decide +kernel
theorem dX11_count_142 : decode cX11_count 142 = .ok (.aload_n 0, 1) := by decide +kernel
theorem dX11_count_143 : decode cX11_count 143 = .ok (.getfield 114, 3) := by decide +kernel
theorem dX11_count_146 : decode cX11_count 146 = .ok (.iload_n 3, 1) := by decide +kernel
theorem dX11_count_147 : decode cX11_count 147 = .ok (.baload, 1) := by decide +kernel
theorem dX11_count_148 : decode cX11_count 148 = .ok (.ifCond .eq 20, 3) := by decide +kernel
theorem dX11_count_151 : decode cX11_count 151 = .ok (.aload_n 0, 1) := by decide +kernel
theorem dX11_count_152 : decode cX11_count 152 = .ok (.iload_n 3, 1) := by decide +kernel
theorem dX11_count_153 : decode cX11_count 153 = .ok (.iconst 4, 1) := by decide +kernel
theorem dX11_count_154 : decode cX11_count 154 = .ok (.invokevirtual 291, 3) := by decide +kernel
theorem dX11_count_157 : decode cX11_count 157 = .ok (.iload_n 1, 1) := by decide +kernel
theorem dX11_count_158 : decode cX11_count 158 = .ok (.bipush 10, 2) := by decide +kernel
theorem dX11_count_160 : decode cX11_count 160 = .ok (.isub, 1) := by decide +kernel
theorem dX11_count_161 : decode cX11_count 161 = .ok (.if_icmp .ne 7, 3) := by decide +kernel
theorem dX11_count_164 : decode cX11_count 164 = .ok (.iconst 1, 1) := by decide +kernel
theorem dX11_count_165 : decode cX11_count 165 = .ok (.goto 4, 3) := by decide +kernel
theorem dX11_count_168 : decode cX11_count 168 = .ok (.iconst 0, 1) := by decide +kernel
theorem dX11_count_169 : decode cX11_count 169 = .ok (.iadd, 1) := by decide +kernel
theorem dX11_count_170 : decode cX11_count 170 = .ok (.istore_n 2, 1) := by decide +kernel
theorem dX11_count_171 : decode cX11_count 171 = .ok (.iinc 3 1, 3) := by decide +kernel
theorem dX11_count_174 : decode cX11_count 174 = .ok (.goto (-41), 3) := by decide +kernel
theorem dX11_count_177 : decode cX11_count 177 = .ok (.iload_n 1, 1) := by decide +kernel
theorem dX11_count_178 : decode cX11_count 178 = .ok (.bipush 10, 2) := by decide +kernel
theorem dX11_count_180 : decode cX11_count 180 = .ok (.bipush 15, 2) := by decide +kernel
theorem dX11_count_182 : decode cX11_count 182 = .ok (.invokestatic 138, 3) := by decide +kernel
theorem dX11_count_185 : decode cX11_count 185 = .ok (.ifCond .eq 7, 3) := by decide +kernel
theorem dX11_count_188 : decode cX11_count 188 = .ok (.iload_n 2, 1) := by decide +kernel
theorem dX11_count_189 : decode cX11_count 189 = .ok (.goto 4, 3) := by decide +kernel
theorem dX11_count_192 : decode cX11_count 192 = .ok (.iconst (-1), 1) := by decide +kernel
theorem dX11_count_193 : decode cX11_count 193 = .ok (.ireturn, 1) := by decide +kernel
theorem dX11_image_0 : decode cX11_image 0 = .ok (.aload_n 0, 1) := by decide +kernel
theorem dX11_image_1 : decode cX11_image 1 = .ok (.iconst 0, 1) := by decide +kernel
theorem dX11_image_2 : decode cX11_image 2 = .ok (.putfield 130, 3) := by decide +kernel
theorem dX11_image_5 : decode cX11_image 5 = .ok (.iload_n 1, 1) := by decide +kernel
theorem dX11_image_6 : decode cX11_image 6 = .ok (.iconst 0, 1) := by decide +kernel
theorem dX11_image_7 : decode cX11_image 7 = .ok (.iconst 2, 1) := by decide +kernel
theorem dX11_image_8 : decode cX11_image 8 = .ok (.invokestatic 138, 3) := by decide +kernel
theorem dX11_image_11 : decode cX11_image 11 = .ok (.ifCond .ne 5, 3) := by decide +kernel
theorem dX11_image_14 : decode cX11_image 14 = .ok (.iconst 0, 1) := by decide +kernel
theorem dX11_image_15 : decode cX11_image 15 = .ok (.ireturn, 1) := by decide +kernel
theorem dX11_image_16 : decode cX11_image 16 = .ok (.aload_n 0, 1) := by decide +kernel
theorem dX11_image_17 : decode cX11_image 17 = .ok (.iconst 0, 1) := by decide +kernel
theorem dX11_image_18 : decode cX11_image 18 = .ok (.iload_n 1, 1) := by decide +kernel
theorem dX11_image_19 : decode cX11_image 19 = .ok (.iconst 1, 1) := by decide +kernel
theorem dX11_image_20 : decode cX11_image 20 = .ok (.iadd, 1) := by decide +kernel
theorem dX11_image_21 : decode cX11_image 21 = .ok (.invokevirtual 412, 3) := by decide +kernel
theorem dX11_image_24 : decode cX11_image 24 = .ok (.aload_n 0, 1) := by decide +kernel
theorem dX11_image_25 : decode cX11_image 25 = .ok (.getfield 127, 3) := by decide +kernel
theorem dX11_image_28 : decode cX11_image 28 = .ok (.iload_n 1, 1) := by decide +kernel
theorem dX11_image_29 : decode cX11_image 29 = .ok (.iconst 1, 1) := by decide +kernel
theorem dX11_image_30 : decode cX11_image 30 = .ok (.bastore, 1) := by decide +kernel
theorem dX11_image_31 : decode cX11_image 31 = .ok (.iconst 1, 1) := by decide +kernel
theorem dX11_image_32 : decode cX11_image 32 = .ok (.ireturn, 1) := by decide +kernel
theorem dX11_again_0 : decode cX11_again 0 = .ok (.aload_n 0, 1) := by decide +kernel
theorem dX11_again_1 : decode cX11_again 1 = .ok (.iconst 0, 1) := by decide +kernel
theorem dX11_again_2 : decode cX11_again 2 = .ok (.putfield 130, 3) := by decide +kernel
theorem dX11_again_5 : decode cX11_again 5 = .ok (.iload_n 1, 1) := by decide +kernel
theorem dX11_again_6 : decode cX11_again 6 = .ok (.iconst 0, 1) := by decide +kernel
theorem dX11_again_7 : decode cX11_again 7 = .ok (.iconst 2, 1) := by decide +kernel
theorem dX11_again_8 : decode cX11_again 8 = .ok (.invokestatic 138, 3) := by decide +kernel
theorem dX11_again_11 : decode cX11_again 11 = .ok (.ifCond .eq 12, 3) := by decide +kernel
theorem dX11_again_14 : decode cX11_again 14 = .ok (.aload_n 0, 1) := by decide +kernel
theorem dX11_again_15 : decode cX11_again 15 = .ok (.getfield 127, 3) := by decide +kernel
theorem dX11_again_18 : decode cX11_again 18 = .ok (.iload_n 1, 1) := by decide +kernel
theorem dX11_again_19 : decode cX11_again 19 = .ok (.baload, 1) := by decide +kernel
theorem dX11_again_20 : decode cX11_again 20 = .ok (.ifCond .ne 5, 3) := by decide +kernel
theorem dX11_again_23 : decode cX11_again 23 = .ok (.iconst 0, 1) := by decide +kernel
theorem dX11_again_24 : decode cX11_again 24 = .ok (.ireturn, 1) := by decide +kernel
theorem dX11_again_25 : decode cX11_again 25 = .ok (.aload_n 0, 1) := by decide +kernel
theorem dX11_again_26 : decode cX11_again 26 = .ok (.iload_n 1, 1) := by decide +kernel
theorem dX11_again_27 : decode cX11_again 27 = .ok (.iconst 1, 1) := by decide +kernel
theorem dX11_again_28 : decode cX11_again 28 = .ok (.iadd, 1) := by decide +kernel
theorem dX11_again_29 : decode cX11_again 29 = .ok (.iconst 0, 1) := by decide +kernel
theorem dX11_again_30 : decode cX11_again 30 = .ok (.invokevirtual 412, 3) := by decide +kernel
theorem dX11_again_33 : decode cX11_again 33 = .ok (.iconst 1, 1) := by decide +kernel
theorem dX11_again_34 : decode cX11_again 34 = .ok (.ireturn, 1) := by decide +kernel
theorem dJ6_bitCount_0f7a4_0 : decode cJ6_bitCount_0f7a4 0 = .ok (.iload_n 0, 1) := by decide +kernel
theorem dJ6_bitCount_0f7a4_1 : decode cJ6_bitCount_0f7a4 1 = .ok (.iload_n 0, 1) := by decide +kernel
theorem dJ6_bitCount_0f7a4_2 : decode cJ6_bitCount_0f7a4 2 = .ok (.iconst 1, 1) := by decide +kernel
theorem dJ6_bitCount_0f7a4_3 : decode cJ6_bitCount_0f7a4 3 = .ok (.iushr, 1) := by decide +kernel
theorem dJ6_bitCount_0f7a4_4 : decode cJ6_bitCount_0f7a4 4 = .ok (.ldc_w 265, 3) := by decide +kernel
theorem dJ6_bitCount_0f7a4_7 : decode cJ6_bitCount_0f7a4 7 = .ok (.iand, 1) := by decide +kernel
theorem dJ6_bitCount_0f7a4_8 : decode cJ6_bitCount_0f7a4 8 = .ok (.isub, 1) := by decide +kernel
theorem dJ6_bitCount_0f7a4_9 : decode cJ6_bitCount_0f7a4 9 = .ok (.istore_n 0, 1) := by decide +kernel
theorem dJ6_bitCount_0f7a4_10 : decode cJ6_bitCount_0f7a4 10 = .ok (.iload_n 0, 1) := by decide +kernel
theorem dJ6_bitCount_0f7a4_11 : decode cJ6_bitCount_0f7a4 11 = .ok (.ldc_w 266, 3) := by decide +kernel
theorem dJ6_bitCount_0f7a4_14 : decode cJ6_bitCount_0f7a4 14 = .ok (.iand, 1) := by decide +kernel
theorem dJ6_bitCount_0f7a4_15 : decode cJ6_bitCount_0f7a4 15 = .ok (.iload_n 0, 1) := by decide +kernel
theorem dJ6_bitCount_0f7a4_16 : decode cJ6_bitCount_0f7a4 16 = .ok (.iconst 2, 1) := by decide +kernel
theorem dJ6_bitCount_0f7a4_17 : decode cJ6_bitCount_0f7a4 17 = .ok (.iushr, 1) := by decide +kernel
theorem dJ6_bitCount_0f7a4_18 : decode cJ6_bitCount_0f7a4 18 = .ok (.ldc_w 266, 3) := by decide +kernel
theorem dJ6_bitCount_0f7a4_21 : decode cJ6_bitCount_0f7a4 21 = .ok (.iand, 1) := by decide +kernel
theorem dJ6_bitCount_0f7a4_22 : decode cJ6_bitCount_0f7a4 22 = .ok (.iadd, 1) := by decide +kernel
theorem dJ6_bitCount_0f7a4_23 : decode cJ6_bitCount_0f7a4 23 = .ok (.istore_n 0, 1) := by decide +kernel
theorem dJ6_bitCount_0f7a4_24 : decode cJ6_bitCount_0f7a4 24 = .ok (.iload_n 0, 1) := by decide +kernel
theorem dJ6_bitCount_0f7a4_25 : decode cJ6_bitCount_0f7a4 25 = .ok (.iload_n 0, 1) := by decide +kernel
theorem dJ6_bitCount_0f7a4_26 : decode cJ6_bitCount_0f7a4 26 = .ok (.iconst 4, 1) := by decide +kernel
theorem dJ6_bitCount_0f7a4_27 : decode cJ6_bitCount_0f7a4 27 = .ok (.iushr, 1) := by decide +kernel
theorem dJ6_bitCount_0f7a4_28 : decode cJ6_bitCount_0f7a4 28 = .ok (.iadd, 1) := by decide +kernel
theorem dJ6_bitCount_0f7a4_29 : decode cJ6_bitCount_0f7a4 29 = .ok (.ldc_w 267, 3) := by decide +kernel
theorem dJ6_bitCount_0f7a4_32 : decode cJ6_bitCount_0f7a4 32 = .ok (.iand, 1) := by decide +kernel
theorem dJ6_bitCount_0f7a4_33 : decode cJ6_bitCount_0f7a4 33 = .ok (.istore_n 0, 1) := by decide +kernel
theorem dJ6_bitCount_0f7a4_34 : decode cJ6_bitCount_0f7a4 34 = .ok (.iload_n 0, 1) := by decide +kernel
theorem dJ6_bitCount_0f7a4_35 : decode cJ6_bitCount_0f7a4 35 = .ok (.iload_n 0, 1) := by decide +kernel
theorem dJ6_bitCount_0f7a4_36 : decode cJ6_bitCount_0f7a4 36 = .ok (.bipush 8, 2) := by decide +kernel
theorem dJ6_bitCount_0f7a4_38 : decode cJ6_bitCount_0f7a4 38 = .ok (.iushr, 1) := by decide +kernel
theorem dJ6_bitCount_0f7a4_39 : decode cJ6_bitCount_0f7a4 39 = .ok (.iadd, 1) := by decide +kernel
theorem dJ6_bitCount_0f7a4_40 : decode cJ6_bitCount_0f7a4 40 = .ok (.istore_n 0, 1) := by decide +kernel
theorem dJ6_bitCount_0f7a4_41 : decode cJ6_bitCount_0f7a4 41 = .ok (.iload_n 0, 1) := by decide +kernel
theorem dJ6_bitCount_0f7a4_42 : decode cJ6_bitCount_0f7a4 42 = .ok (.iload_n 0, 1) := by decide +kernel
theorem dJ6_bitCount_0f7a4_43 : decode cJ6_bitCount_0f7a4 43 = .ok (.bipush 16, 2) := by decide +kernel
theorem dJ6_bitCount_0f7a4_45 : decode cJ6_bitCount_0f7a4 45 = .ok (.iushr, 1) := by decide +kernel
theorem dJ6_bitCount_0f7a4_46 : decode cJ6_bitCount_0f7a4 46 = .ok (.iadd, 1) := by decide +kernel
theorem dJ6_bitCount_0f7a4_47 : decode cJ6_bitCount_0f7a4 47 = .ok (.istore_n 0, 1) := by decide +kernel
theorem dJ6_bitCount_0f7a4_48 : decode cJ6_bitCount_0f7a4 48 = .ok (.iload_n 0, 1) := by decide +kernel
theorem dJ6_bitCount_0f7a4_49 : decode cJ6_bitCount_0f7a4 49 = .ok (.bipush 63, 2) := by decide +kernel
theorem dJ6_bitCount_0f7a4_51 : decode cJ6_bitCount_0f7a4 51 = .ok (.iand, 1) := by decide +kernel
theorem dJ6_bitCount_0f7a4_52 : decode cJ6_bitCount_0f7a4 52 = .ok (.ireturn, 1) := by decide +kernel
theorem dJ13_compare_74951_0 : decode cJ13_compare_74951 0 = .ok (.lload_n 0, 1) := by decide +kernel
theorem dJ13_compare_74951_1 : decode cJ13_compare_74951 1 = .ok (.lload_n 2, 1) := by decide +kernel
theorem dJ13_compare_74951_2 : decode cJ13_compare_74951 2 = .ok (.lcmp, 1) := by decide +kernel
theorem dJ13_compare_74951_3 : decode cJ13_compare_74951 3 = .ok (.ifCond .ge 7, 3) := by decide +kernel
theorem dJ13_compare_74951_6 : decode cJ13_compare_74951 6 = .ok (.iconst (-1), 1) := by decide +kernel
theorem dJ13_compare_74951_7 : decode cJ13_compare_74951 7 = .ok (.goto 14, 3) := by decide +kernel
theorem dJ13_compare_74951_10 : decode cJ13_compare_74951 10 = .ok (.lload_n 0, 1) := by decide +kernel
theorem dJ13_compare_74951_11 : decode cJ13_compare_74951 11 = .ok (.lload_n 2, 1) := by decide +kernel
theorem dJ13_compare_74951_12 : decode cJ13_compare_74951 12 = .ok (.lcmp, 1) := by decide +kernel
theorem dJ13_compare_74951_13 : decode cJ13_compare_74951 13 = .ok (.ifCond .ne 7, 3) := by decide +kernel
theorem dJ13_compare_74951_16 : decode cJ13_compare_74951 16 = .ok (.iconst 0, 1) := by decide +kernel
theorem dJ13_compare_74951_17 : decode cJ13_compare_74951 17 = .ok (.goto 4, 3) := by decide +kernel
theorem dJ13_compare_74951_20 : decode cJ13_compare_74951 20 = .ok (.iconst 1, 1) := by decide +kernel
theorem dJ13_compare_74951_21 : decode cJ13_compare_74951 21 = .ok (.ireturn, 1) := by decide +kernel
theorem dJ9_abs_0f7a4_0 : decode cJ9_abs_0f7a4 0 = .ok (.iload_n 0, 1) := by decide +kernel
theorem dJ9_abs_0f7a4_1 : decode cJ9_abs_0f7a4 1 = .ok (.ifCond .ge 8, 3) := by decide +kernel
theorem dJ9_abs_0f7a4_4 : decode cJ9_abs_0f7a4 4 = .ok (.iload_n 0, 1) := by decide +kernel
theorem dJ9_abs_0f7a4_5 : decode cJ9_abs_0f7a4 5 = .ok (.ineg, 1) := by decide +kernel
theorem dJ9_abs_0f7a4_6 : decode cJ9_abs_0f7a4 6 = .ok (.goto 4, 3) := by decide +kernel
theorem dJ9_abs_0f7a4_9 : decode cJ9_abs_0f7a4 9 = .ok (.iload_n 0, 1) := by decide +kernel
theorem dJ9_abs_0f7a4_10 : decode cJ9_abs_0f7a4 10 = .ok (.ireturn, 1) := by decide +kernel
theorem dJ9_max_7cf53_0 : decode cJ9_max_7cf53 0 = .ok (.iload_n 0, 1) := by decide +kernel
theorem dJ9_max_7cf53_1 : decode cJ9_max_7cf53 1 = .ok (.iload_n 1, 1) := by decide +kernel
theorem dJ9_max_7cf53_2 : decode cJ9_max_7cf53 2 = .ok (.if_icmp .lt 7, 3) := by decide +kernel
theorem dJ9_max_7cf53_5 : decode cJ9_max_7cf53 5 = .ok (.iload_n 0, 1) := by decide +kernel
theorem dJ9_max_7cf53_6 : decode cJ9_max_7cf53 6 = .ok (.goto 4, 3) := by decide +kernel
theorem dJ9_max_7cf53_9 : decode cJ9_max_7cf53 9 = .ok (.iload_n 1, 1) := by decide +kernel
theorem dJ9_max_7cf53_10 : decode cJ9_max_7cf53 10 = .ok (.ireturn, 1) := by decide +kernel
theorem dJ9_min_7cf53_0 : decode cJ9_min_7cf53 0 = .ok (.iload_n 0, 1) := by decide +kernel
theorem dJ9_min_7cf53_1 : decode cJ9_min_7cf53 1 = .ok (.iload_n 1, 1) := by decide +kernel
theorem dJ9_min_7cf53_2 : decode cJ9_min_7cf53 2 = .ok (.if_icmp .gt 7, 3) := by decide +kernel
theorem dJ9_min_7cf53_5 : decode cJ9_min_7cf53 5 = .ok (.iload_n 0, 1) := by decide +kernel
theorem dJ9_min_7cf53_6 : decode cJ9_min_7cf53 6 = .ok (.goto 4, 3) := by decide +kernel
theorem dJ9_min_7cf53_9 : decode cJ9_min_7cf53 9 = .ok (.iload_n 1, 1) := by decide +kernel
theorem dJ9_min_7cf53_10 : decode cJ9_min_7cf53 10 = .ok (.ireturn, 1) := by decide +kernel
theorem dJ9_min_f86c9_0 : decode cJ9_min_f86c9 0 = .ok (.lload_n 0, 1) := by decide +kernel
theorem dJ9_min_f86c9_1 : decode cJ9_min_f86c9 1 = .ok (.lload_n 2, 1) := by decide +kernel
theorem dJ9_min_f86c9_2 : decode cJ9_min_f86c9 2 = .ok (.lcmp, 1) := by decide +kernel
theorem dJ9_min_f86c9_3 : decode cJ9_min_f86c9 3 = .ok (.ifCond .gt 7, 3) := by decide +kernel
theorem dJ9_min_f86c9_6 : decode cJ9_min_f86c9 6 = .ok (.lload_n 0, 1) := by decide +kernel
theorem dJ9_min_f86c9_7 : decode cJ9_min_f86c9 7 = .ok (.goto 4, 3) := by decide +kernel
theorem dJ9_min_f86c9_10 : decode cJ9_min_f86c9 10 = .ok (.lload_n 2, 1) := by decide +kernel
theorem dJ9_min_f86c9_11 : decode cJ9_min_f86c9 11 = .ok (.lreturn, 1) := by decide +kernel
theorem dJ0_length_8abf5_0 : decode cJ0_length_8abf5 0 = .ok (.aload_n 0, 1) := by decide +kernel
theorem dJ0_length_8abf5_1 : decode cJ0_length_8abf5 1 = .ok (.getfield 9, 3) := by decide +kernel
theorem dJ0_length_8abf5_4 : decode cJ0_length_8abf5 4 = .ok (.arraylength, 1) := by decide +kernel
theorem dJ0_length_8abf5_5 : decode cJ0_length_8abf5 5 = .ok (.aload_n 0, 1) := by decide +kernel
theorem dJ0_length_8abf5_6 : decode cJ0_length_8abf5 6 = .ok (.invokevirtual 335, 3) := by decide +kernel
theorem dJ0_length_8abf5_9 : decode cJ0_length_8abf5 9 = .ok (.ishr, 1) := by decide +kernel
theorem dJ0_length_8abf5_10 : decode cJ0_length_8abf5 10 = .ok (.ireturn, 1) := by decide +kernel
theorem dJ0_charAt_5068e_0 : decode cJ0_charAt_5068e 0 = .ok (.aload_n 0, 1) := by decide +kernel
theorem dJ0_charAt_5068e_1 : decode cJ0_charAt_5068e 1 = .ok (.invokevirtual 492, 3) := by decide +kernel
theorem dJ0_charAt_5068e_4 : decode cJ0_charAt_5068e 4 = .ok (.ifCond .eq 12, 3) := by decide +kernel
theorem dJ0_charAt_5068e_7 : decode cJ0_charAt_5068e 7 = .ok (.aload_n 0, 1) := by decide +kernel
theorem dJ0_charAt_5068e_8 : decode cJ0_charAt_5068e 8 = .ok (.getfield 9, 3) := by decide +kernel
theorem dJ0_charAt_5068e_11 : decode cJ0_charAt_5068e 11 = .ok (.iload_n 1, 1) := by decide +kernel
theorem dJ0_charAt_5068e_12 : decode cJ0_charAt_5068e 12 = .ok (.invokestatic 495, 3) := by decide +kernel
theorem dJ0_charAt_5068e_15 : decode cJ0_charAt_5068e 15 = .ok (.ireturn, 1) := by decide +kernel
theorem dJ0_charAt_5068e_16 : decode cJ0_charAt_5068e 16 = .ok (.aload_n 0, 1) := by decide +kernel
theorem dJ0_charAt_5068e_17 : decode cJ0_charAt_5068e 17 = .ok (.getfield 9, 3) := by decide +kernel
theorem dJ0_charAt_5068e_20 : decode cJ0_charAt_5068e 20 = .ok (.iload_n 1, 1) := by decide +kernel
theorem dJ0_charAt_5068e_21 : decode cJ0_charAt_5068e 21 = .ok (.invokestatic 498, 3) := by decide +kernel
theorem dJ0_charAt_5068e_24 : decode cJ0_charAt_5068e 24 = .ok (.ireturn, 1) := by decide +kernel
theorem dJ0_coder_7d493_0 : decode cJ0_coder_7d493 0 = .ok (.getstatic 38, 3) := by decide +kernel
theorem dJ0_coder_7d493_3 : decode cJ0_coder_7d493 3 = .ok (.ifCond .eq 10, 3) := by decide +kernel
theorem dJ0_coder_7d493_6 : decode cJ0_coder_7d493 6 = .ok (.aload_n 0, 1) := by decide +kernel
theorem dJ0_coder_7d493_7 : decode cJ0_coder_7d493 7 = .ok (.getfield 15, 3) := by decide +kernel
theorem dJ0_coder_7d493_10 : decode cJ0_coder_7d493 10 = .ok (.goto 4, 3) := by decide +kernel
theorem dJ0_coder_7d493_13 : decode cJ0_coder_7d493 13 = .ok (.iconst 1, 1) := by decide +kernel
theorem dJ0_coder_7d493_14 : decode cJ0_coder_7d493 14 = .ok (.ireturn, 1) := by decide +kernel
theorem dJ0_isLatin1_aae02_0 : decode cJ0_isLatin1_aae02 0 = .ok (.getstatic 38, 3) := by decide +kernel
theorem dJ0_isLatin1_aae02_3 : decode cJ0_isLatin1_aae02 3 = .ok (.ifCond .eq 14, 3) := by decide +kernel
theorem dJ0_isLatin1_aae02_6 : decode cJ0_isLatin1_aae02 6 = .ok (.aload_n 0, 1) := by decide +kernel
theorem dJ0_isLatin1_aae02_7 : decode cJ0_isLatin1_aae02 7 = .ok (.getfield 15, 3) := by decide +kernel
theorem dJ0_isLatin1_aae02_10 : decode cJ0_isLatin1_aae02 10 = .ok (.ifCond .ne 7, 3) := by decide +kernel
theorem dJ0_isLatin1_aae02_13 : decode cJ0_isLatin1_aae02 13 = .ok (.iconst 1, 1) := by decide +kernel
theorem dJ0_isLatin1_aae02_14 : decode cJ0_isLatin1_aae02 14 = .ok (.goto 4, 3) := by decide +kernel
theorem dJ0_isLatin1_aae02_17 : decode cJ0_isLatin1_aae02 17 = .ok (.iconst 0, 1) := by decide +kernel
theorem dJ0_isLatin1_aae02_18 : decode cJ0_isLatin1_aae02 18 = .ok (.ireturn, 1) := by decide +kernel
theorem dJ0_checkIndex_df160_0 : decode cJ0_checkIndex_df160 0 = .ok (.iload_n 0, 1) := by decide +kernel
theorem dJ0_checkIndex_df160_1 : decode cJ0_checkIndex_df160 1 = .ok (.iload_n 1, 1) := by decide +kernel
theorem dJ0_checkIndex_df160_2 : decode cJ0_checkIndex_df160 2 = .ok (.getstatic 1053, 3) := by decide +kernel
theorem dJ0_checkIndex_df160_5 : decode cJ0_checkIndex_df160 5 = .ok (.invokestatic 1059, 3) := by decide +kernel
theorem dJ0_checkIndex_df160_8 : decode cJ0_checkIndex_df160 8 = .ok (.pop, 1) := by decide +kernel
theorem dJ0_checkIndex_df160_9 : decode cJ0_checkIndex_df160 9 = .ok (.return_, 1) := by decide +kernel
theorem dJ1_charAt_3b067_0 : decode cJ1_charAt_3b067 0 = .ok (.iload_n 1, 1) := by decide +kernel
theorem dJ1_charAt_3b067_1 : decode cJ1_charAt_3b067 1 = .ok (.aload_n 0, 1) := by decide +kernel
theorem dJ1_charAt_3b067_2 : decode cJ1_charAt_3b067 2 = .ok (.arraylength, 1) := by decide +kernel
theorem dJ1_charAt_3b067_3 : decode cJ1_charAt_3b067 3 = .ok (.invokestatic 9, 3) := by decide +kernel
theorem dJ1_charAt_3b067_6 : decode cJ1_charAt_3b067 6 = .ok (.aload_n 0, 1) := by decide +kernel
theorem dJ1_charAt_3b067_7 : decode cJ1_charAt_3b067 7 = .ok (.iload_n 1, 1) := by decide +kernel
theorem dJ1_charAt_3b067_8 : decode cJ1_charAt_3b067 8 = .ok (.baload, 1) := by decide +kernel
theorem dJ1_charAt_3b067_9 : decode cJ1_charAt_3b067 9 = .ok (.sipush 255, 3) := by decide +kernel
theorem dJ1_charAt_3b067_12 : decode cJ1_charAt_3b067 12 = .ok (.iand, 1) := by decide +kernel
theorem dJ1_charAt_3b067_13 : decode cJ1_charAt_3b067 13 = .ok (.i2c, 1) := by decide +kernel
theorem dJ1_charAt_3b067_14 : decode cJ1_charAt_3b067 14 = .ok (.ireturn, 1) := by decide +kernel
theorem dJ2_getChar_3b067_0 : decode cJ2_getChar_3b067 0 = .ok (.getstatic 44, 3) := by decide +kernel
theorem dJ2_getChar_3b067_3 : decode cJ2_getChar_3b067 3 = .ok (.ifCond .ne 25, 3) := by decide +kernel
theorem dJ2_getChar_3b067_6 : decode cJ2_getChar_3b067 6 = .ok (.iload_n 1, 1) := by decide +kernel
theorem dJ2_getChar_3b067_7 : decode cJ2_getChar_3b067 7 = .ok (.ifCond .lt 11, 3) := by decide +kernel
theorem dJ2_getChar_3b067_10 : decode cJ2_getChar_3b067 10 = .ok (.iload_n 1, 1) := by decide +kernel
theorem dJ2_getChar_3b067_11 : decode cJ2_getChar_3b067 11 = .ok (.aload_n 0, 1) := by decide +kernel
theorem dJ2_getChar_3b067_12 : decode cJ2_getChar_3b067 12 = .ok (.invokestatic 48, 3) := by decide +kernel
theorem dJ2_getChar_3b067_15 : decode cJ2_getChar_3b067 15 = .ok (.if_icmp .lt 13, 3) := by decide +kernel
theorem dJ2_getChar_3b067_18 : decode cJ2_getChar_3b067 18 = .ok (.new 52, 3) := by decide +kernel
theorem dJ2_getChar_3b067_21 : decode cJ2_getChar_3b067 21 = .ok (.dup, 1) := by decide +kernel
theorem dJ2_getChar_3b067_22 : decode cJ2_getChar_3b067 22 = .ok (.ldc 54, 2) := by decide +kernel
theorem dJ2_getChar_3b067_24 : decode cJ2_getChar_3b067 24 = .ok (.invokespecial 56, 3) := by decide +kernel
theorem dJ2_getChar_3b067_27 : decode cJ2_getChar_3b067 27 = .ok (.athrow, 1) := by decide +kernel
theorem dJ2_getChar_3b067_28 : decode cJ2_getChar_3b067 28 = .ok (.iload_n 1, 1) := by decide +kernel
theorem dJ2_getChar_3b067_29 : decode cJ2_getChar_3b067 29 = .ok (.iconst 1, 1) := by decide +kernel
theorem dJ2_getChar_3b067_30 : decode cJ2_getChar_3b067 30 = .ok (.ishl, 1) := by decide +kernel
theorem dJ2_getChar_3b067_31 : decode cJ2_getChar_3b067 31 = .ok (.istore_n 1, 1) := by decide +kernel
theorem dJ2_getChar_3b067_32 : decode cJ2_getChar_3b067 32 = .ok (.aload_n 0, 1) := by decide +kernel
theorem dJ2_getChar_3b067_33 : decode cJ2_getChar_3b067 33 = .ok (.iload_n 1, 1) := by decide +kernel
theorem dJ2_getChar_3b067_34 : decode cJ2_getChar_3b067 34 = .ok (.iinc 1 1, 3) := by decide +kernel
theorem dJ2_getChar_3b067_37 : decode cJ2_getChar_3b067 37 = .ok (.baload, 1) := by decide +kernel
theorem dJ2_getChar_3b067_38 : decode cJ2_getChar_3b067 38 = .ok (.sipush 255, 3) := by decide +kernel
theorem dJ2_getChar_3b067_41 : decode cJ2_getChar_3b067 41 = .ok (.iand, 1) := by decide +kernel
theorem dJ2_getChar_3b067_42 : decode cJ2_getChar_3b067 42 = .ok (.getstatic 59, 3) := by decide +kernel
theorem dJ2_getChar_3b067_45 : decode cJ2_getChar_3b067 45 = .ok (.ishl, 1) := by decide +kernel
theorem dJ2_getChar_3b067_46 : decode cJ2_getChar_3b067 46 = .ok (.aload_n 0, 1) := by decide +kernel
theorem dJ2_getChar_3b067_47 : decode cJ2_getChar_3b067 47 = .ok (.iload_n 1, 1) := by decide +kernel
theorem dJ2_getChar_3b067_48 : decode cJ2_getChar_3b067 48 = .ok (.baload, 1) := by decide +kernel
theorem dJ2_getChar_3b067_49 : decode cJ2_getChar_3b067 49 = .ok (.sipush 255, 3) := by decide +kernel
theorem dJ2_getChar_3b067_52 : decode cJ2_getChar_3b067 52 = .ok (.iand, 1) := by decide +kernel
theorem dJ2_getChar_3b067_53 : decode cJ2_getChar_3b067 53 = .ok (.getstatic 63, 3) := by decide +kernel
theorem dJ2_getChar_3b067_56 : decode cJ2_getChar_3b067 56 = .ok (.ishl, 1) := by decide +kernel
theorem dJ2_getChar_3b067_57 : decode cJ2_getChar_3b067 57 = .ok (.ior, 1) := by decide +kernel
theorem dJ2_getChar_3b067_58 : decode cJ2_getChar_3b067 58 = .ok (.i2c, 1) := by decide +kernel
theorem dJ2_getChar_3b067_59 : decode cJ2_getChar_3b067 59 = .ok (.ireturn, 1) := by decide +kernel
theorem dJ2_length_9d52b_0 : decode cJ2_length_9d52b 0 = .ok (.aload_n 0, 1) := by decide +kernel
theorem dJ2_length_9d52b_1 : decode cJ2_length_9d52b 1 = .ok (.arraylength, 1) := by decide +kernel
theorem dJ2_length_9d52b_2 : decode cJ2_length_9d52b 2 = .ok (.iconst 1, 1) := by decide +kernel
theorem dJ2_length_9d52b_3 : decode cJ2_length_9d52b 3 = .ok (.ishr, 1) := by decide +kernel
theorem dJ2_length_9d52b_4 : decode cJ2_length_9d52b 4 = .ok (.ireturn, 1) := by decide +kernel
theorem dJ2_charAt_3b067_0 : decode cJ2_charAt_3b067 0 = .ok (.iload_n 1, 1) := by decide +kernel
theorem dJ2_charAt_3b067_1 : decode cJ2_charAt_3b067 1 = .ok (.aload_n 0, 1) := by decide +kernel
theorem dJ2_charAt_3b067_2 : decode cJ2_charAt_3b067 2 = .ok (.invokestatic 67, 3) := by decide +kernel
theorem dJ2_charAt_3b067_5 : decode cJ2_charAt_3b067 5 = .ok (.aload_n 0, 1) := by decide +kernel
theorem dJ2_charAt_3b067_6 : decode cJ2_charAt_3b067 6 = .ok (.iload_n 1, 1) := by decide +kernel
theorem dJ2_charAt_3b067_7 : decode cJ2_charAt_3b067 7 = .ok (.invokestatic 71, 3) := by decide +kernel
theorem dJ2_charAt_3b067_10 : decode cJ2_charAt_3b067 10 = .ok (.ireturn, 1) := by decide +kernel
theorem dJ2_checkIndex_2214a_0 : decode cJ2_checkIndex_2214a 0 = .ok (.iload_n 0, 1) := by decide +kernel
theorem dJ2_checkIndex_2214a_1 : decode cJ2_checkIndex_2214a 1 = .ok (.aload_n 1, 1) := by decide +kernel
theorem dJ2_checkIndex_2214a_2 : decode cJ2_checkIndex_2214a 2 = .ok (.invokestatic 48, 3) := by decide +kernel
theorem dJ2_checkIndex_2214a_5 : decode cJ2_checkIndex_2214a 5 = .ok (.invokestatic 414, 3) := by decide +kernel
theorem dJ2_checkIndex_2214a_8 : decode cJ2_checkIndex_2214a 8 = .ok (.return_, 1) := by decide +kernel
theorem dJ3_checkIndex_8e157_0 : decode cJ3_checkIndex_8e157 0 = .ok (.iload_n 0, 1) := by decide +kernel
theorem dJ3_checkIndex_8e157_1 : decode cJ3_checkIndex_8e157 1 = .ok (.ifCond .lt 8, 3) := by decide +kernel
theorem dJ3_checkIndex_8e157_4 : decode cJ3_checkIndex_8e157 4 = .ok (.iload_n 0, 1) := by decide +kernel
theorem dJ3_checkIndex_8e157_5 : decode cJ3_checkIndex_8e157 5 = .ok (.iload_n 1, 1) := by decide +kernel
theorem dJ3_checkIndex_8e157_6 : decode cJ3_checkIndex_8e157 6 = .ok (.if_icmp .lt 10, 3) := by decide +kernel
theorem dJ3_checkIndex_8e157_9 : decode cJ3_checkIndex_8e157 9 = .ok (.aload_n 2, 1) := by decide +kernel
theorem dJ3_checkIndex_8e157_10 : decode cJ3_checkIndex_8e157 10 = .ok (.iload_n 0, 1) := by decide +kernel
theorem dJ3_checkIndex_8e157_11 : decode cJ3_checkIndex_8e157 11 = .ok (.iload_n 1, 1) := by decide +kernel
theorem dJ3_checkIndex_8e157_12 : decode cJ3_checkIndex_8e157 12 = .ok (.invokestatic 95, 3) := by decide +kernel
theorem dJ3_checkIndex_8e157_15 : decode cJ3_checkIndex_8e157 15 = .ok (.athrow, 1) := by decide +kernel
theorem dJ3_checkIndex_8e157_16 : decode cJ3_checkIndex_8e157 16 = .ok (.iload_n 0, 1) := by decide +kernel
theorem dJ3_checkIndex_8e157_17 : decode cJ3_checkIndex_8e157 17 = .ok (.ireturn, 1) := by decide +kernel
theorem dL_law_0 : decode cL_law 0 = .ok (.new 7, 3) := by decide +kernel
theorem dL_law_3 : decode cL_law 3 = .ok (.dup, 1) := by decide +kernel
theorem dL_law_4 : decode cL_law 4 = .ok (.invokespecial 9, 3) := by decide +kernel
theorem dL_law_7 : decode cL_law 7 = .ok (.astore_n 1, 1) := by decide +kernel
theorem dL_law_8 : decode cL_law 8 = .ok (.new 10, 3) := by decide +kernel
theorem dL_law_11 : decode cL_law 11 = .ok (.dup, 1) := by decide +kernel
theorem dL_law_12 : decode cL_law 12 = .ok (.invokespecial 12, 3) := by decide +kernel
theorem dL_law_15 : decode cL_law 15 = .ok (.astore_n 2, 1) := by decide +kernel
theorem dL_law_16 : decode cL_law 16 = .ok (.iconst 0, 1) := by decide +kernel
theorem dL_law_17 : decode cL_law 17 = .ok (.istore_n 3, 1) := by decide +kernel
theorem dL_law_18 : decode cL_law 18 = .ok (.iload_n 3, 1) := by decide +kernel
theorem dL_law_19 : decode cL_law 19 = .ok (.aload_n 0, 1) := by decide +kernel
theorem dL_law_20 : decode cL_law 20 = .ok (.arraylength, 1) := by decide +kernel
theorem dL_law_21 : decode cL_law 21 = .ok (.bipush 6, 2) := by decide +kernel
theorem dL_law_23 : decode cL_law 23 = .ok (.isub, 1) := by decide +kernel
theorem dL_law_24 : decode cL_law 24 = .ok (.if_icmp .gt 1237, 3) := by decide +kernel
theorem dL_law_27 : decode cL_law 27 = .ok (.aload_n 0, 1) := by decide +kernel
theorem dL_law_28 : decode cL_law 28 = .ok (.iload_n 3, 1) := by decide +kernel
theorem dL_law_29 : decode cL_law 29 = .ok (.iaload, 1) := by decide +kernel
theorem dL_law_30 : decode cL_law 30 = .ok (.bipush 31, 2) := by decide +kernel
theorem dL_law_32 : decode cL_law 32 = .ok (.iand, 1) := by decide +kernel
theorem dL_law_33 : decode cL_law 33 = .ok (.tableswitch 1222 0 29 #[135, 178, 221, 244, 267, 300, 333, 396, 419, 458, 481, 544, 577, 620, 643, 676, 719, 752, 786, 809, 852, 895, 958, 1001, 1044, 1077, 1110, 1153, 1176, 1199], 135) := by decide +kernel
theorem dL_law_168 : decode cL_law 168 = .ok (.aload_n 1, 1) := by decide +kernel
theorem dL_law_169 : decode cL_law 169 = .ok (.aload_n 0, 1) := by decide +kernel
theorem dL_law_170 : decode cL_law 170 = .ok (.iload_n 3, 1) := by decide +kernel
theorem dL_law_171 : decode cL_law 171 = .ok (.iconst 1, 1) := by decide +kernel
theorem dL_law_172 : decode cL_law 172 = .ok (.iadd, 1) := by decide +kernel
theorem dL_law_173 : decode cL_law 173 = .ok (.iaload, 1) := by decide +kernel
theorem dL_law_174 : decode cL_law 174 = .ok (.aload_n 0, 1) := by decide +kernel
theorem dL_law_175 : decode cL_law 175 = .ok (.iload_n 3, 1) := by decide +kernel
theorem dL_law_176 : decode cL_law 176 = .ok (.iconst 2, 1) := by decide +kernel
theorem dL_law_177 : decode cL_law 177 = .ok (.iadd, 1) := by decide +kernel
theorem dL_law_178 : decode cL_law 178 = .ok (.iaload, 1) := by decide +kernel
theorem dL_law_179 : decode cL_law 179 = .ok (.aload_n 0, 1) := by decide +kernel
theorem dL_law_180 : decode cL_law 180 = .ok (.iload_n 3, 1) := by decide +kernel
theorem dL_law_181 : decode cL_law 181 = .ok (.iconst 3, 1) := by decide +kernel
theorem dL_law_182 : decode cL_law 182 = .ok (.iadd, 1) := by decide +kernel
theorem dL_law_183 : decode cL_law 183 = .ok (.iaload, 1) := by decide +kernel
theorem dL_law_184 : decode cL_law 184 = .ok (.invokevirtual 13, 3) := by decide +kernel
theorem dL_law_187 : decode cL_law 187 = .ok (.aload_n 2, 1) := by decide +kernel
theorem dL_law_188 : decode cL_law 188 = .ok (.aload_n 0, 1) := by decide +kernel
theorem dL_law_189 : decode cL_law 189 = .ok (.iload_n 3, 1) := by decide +kernel
theorem dL_law_190 : decode cL_law 190 = .ok (.iconst 1, 1) := by decide +kernel
theorem dL_law_191 : decode cL_law 191 = .ok (.iadd, 1) := by decide +kernel
theorem dL_law_192 : decode cL_law 192 = .ok (.iaload, 1) := by decide +kernel
theorem dL_law_193 : decode cL_law 193 = .ok (.aload_n 0, 1) := by decide +kernel
theorem dL_law_194 : decode cL_law 194 = .ok (.iload_n 3, 1) := by decide +kernel
theorem dL_law_195 : decode cL_law 195 = .ok (.iconst 2, 1) := by decide +kernel
theorem dL_law_196 : decode cL_law 196 = .ok (.iadd, 1) := by decide +kernel
theorem dL_law_197 : decode cL_law 197 = .ok (.iaload, 1) := by decide +kernel
theorem dL_law_198 : decode cL_law 198 = .ok (.aload_n 0, 1) := by decide +kernel
theorem dL_law_199 : decode cL_law 199 = .ok (.iload_n 3, 1) := by decide +kernel
theorem dL_law_200 : decode cL_law 200 = .ok (.iconst 3, 1) := by decide +kernel
theorem dL_law_201 : decode cL_law 201 = .ok (.iadd, 1) := by decide +kernel
theorem dL_law_202 : decode cL_law 202 = .ok (.iaload, 1) := by decide +kernel
theorem dL_law_203 : decode cL_law 203 = .ok (.invokevirtual 17, 3) := by decide +kernel
theorem dL_law_206 : decode cL_law 206 = .ok (.if_icmp .eq 1049, 3) := by decide +kernel
theorem dL_law_209 : decode cL_law 209 = .ok (.iconst 0, 1) := by decide +kernel
theorem dL_law_210 : decode cL_law 210 = .ok (.ireturn, 1) := by decide +kernel
theorem dL_law_211 : decode cL_law 211 = .ok (.aload_n 1, 1) := by decide +kernel
theorem dL_law_212 : decode cL_law 212 = .ok (.aload_n 0, 1) := by decide +kernel
theorem dL_law_213 : decode cL_law 213 = .ok (.iload_n 3, 1) := by decide +kernel
theorem dL_law_214 : decode cL_law 214 = .ok (.iconst 1, 1) := by decide +kernel
theorem dL_law_215 : decode cL_law 215 = .ok (.iadd, 1) := by decide +kernel
theorem dL_law_216 : decode cL_law 216 = .ok (.iaload, 1) := by decide +kernel
theorem dL_law_217 : decode cL_law 217 = .ok (.aload_n 0, 1) := by decide +kernel
theorem dL_law_218 : decode cL_law 218 = .ok (.iload_n 3, 1) := by decide +kernel
theorem dL_law_219 : decode cL_law 219 = .ok (.iconst 2, 1) := by decide +kernel
theorem dL_law_220 : decode cL_law 220 = .ok (.iadd, 1) := by decide +kernel
theorem dL_law_221 : decode cL_law 221 = .ok (.iaload, 1) := by decide +kernel
theorem dL_law_222 : decode cL_law 222 = .ok (.aload_n 0, 1) := by decide +kernel
theorem dL_law_223 : decode cL_law 223 = .ok (.iload_n 3, 1) := by decide +kernel
theorem dL_law_224 : decode cL_law 224 = .ok (.iconst 3, 1) := by decide +kernel
theorem dL_law_225 : decode cL_law 225 = .ok (.iadd, 1) := by decide +kernel
theorem dL_law_226 : decode cL_law 226 = .ok (.iaload, 1) := by decide +kernel
theorem dL_law_227 : decode cL_law 227 = .ok (.invokevirtual 18, 3) := by decide +kernel
theorem dL_law_230 : decode cL_law 230 = .ok (.aload_n 2, 1) := by decide +kernel
theorem dL_law_231 : decode cL_law 231 = .ok (.aload_n 0, 1) := by decide +kernel
theorem dL_law_232 : decode cL_law 232 = .ok (.iload_n 3, 1) := by decide +kernel
theorem dL_law_233 : decode cL_law 233 = .ok (.iconst 1, 1) := by decide +kernel
theorem dL_law_234 : decode cL_law 234 = .ok (.iadd, 1) := by decide +kernel
theorem dL_law_235 : decode cL_law 235 = .ok (.iaload, 1) := by decide +kernel
theorem dL_law_236 : decode cL_law 236 = .ok (.aload_n 0, 1) := by decide +kernel
theorem dL_law_237 : decode cL_law 237 = .ok (.iload_n 3, 1) := by decide +kernel
theorem dL_law_238 : decode cL_law 238 = .ok (.iconst 2, 1) := by decide +kernel
theorem dL_law_239 : decode cL_law 239 = .ok (.iadd, 1) := by decide +kernel
theorem dL_law_240 : decode cL_law 240 = .ok (.iaload, 1) := by decide +kernel
theorem dL_law_241 : decode cL_law 241 = .ok (.aload_n 0, 1) := by decide +kernel
theorem dL_law_242 : decode cL_law 242 = .ok (.iload_n 3, 1) := by decide +kernel
theorem dL_law_243 : decode cL_law 243 = .ok (.iconst 3, 1) := by decide +kernel
theorem dL_law_244 : decode cL_law 244 = .ok (.iadd, 1) := by decide +kernel
theorem dL_law_245 : decode cL_law 245 = .ok (.iaload, 1) := by decide +kernel
theorem dL_law_246 : decode cL_law 246 = .ok (.invokevirtual 22, 3) := by decide +kernel
theorem dL_law_249 : decode cL_law 249 = .ok (.if_icmp .eq 1006, 3) := by decide +kernel
theorem dL_law_252 : decode cL_law 252 = .ok (.iconst 0, 1) := by decide +kernel
theorem dL_law_253 : decode cL_law 253 = .ok (.ireturn, 1) := by decide +kernel
theorem dL_law_254 : decode cL_law 254 = .ok (.aload_n 1, 1) := by decide +kernel
theorem dL_law_255 : decode cL_law 255 = .ok (.aload_n 0, 1) := by decide +kernel
theorem dL_law_256 : decode cL_law 256 = .ok (.iload_n 3, 1) := by decide +kernel
theorem dL_law_257 : decode cL_law 257 = .ok (.iconst 1, 1) := by decide +kernel
theorem dL_law_258 : decode cL_law 258 = .ok (.iadd, 1) := by decide +kernel
theorem dL_law_259 : decode cL_law 259 = .ok (.iaload, 1) := by decide +kernel
theorem dL_law_260 : decode cL_law 260 = .ok (.invokevirtual 23, 3) := by decide +kernel
theorem dL_law_263 : decode cL_law 263 = .ok (.aload_n 2, 1) := by decide +kernel
theorem dL_law_264 : decode cL_law 264 = .ok (.aload_n 0, 1) := by decide +kernel
theorem dL_law_265 : decode cL_law 265 = .ok (.iload_n 3, 1) := by decide +kernel
theorem dL_law_266 : decode cL_law 266 = .ok (.iconst 1, 1) := by decide +kernel
theorem dL_law_267 : decode cL_law 267 = .ok (.iadd, 1) := by decide +kernel
theorem dL_law_268 : decode cL_law 268 = .ok (.iaload, 1) := by decide +kernel
theorem dL_law_269 : decode cL_law 269 = .ok (.invokevirtual 27, 3) := by decide +kernel
theorem dL_law_272 : decode cL_law 272 = .ok (.if_icmp .eq 983, 3) := by decide +kernel
theorem dL_law_275 : decode cL_law 275 = .ok (.iconst 0, 1) := by decide +kernel
theorem dL_law_276 : decode cL_law 276 = .ok (.ireturn, 1) := by decide +kernel
theorem dL_law_277 : decode cL_law 277 = .ok (.aload_n 1, 1) := by decide +kernel
theorem dL_law_278 : decode cL_law 278 = .ok (.aload_n 0, 1) := by decide +kernel
theorem dL_law_279 : decode cL_law 279 = .ok (.iload_n 3, 1) := by decide +kernel
theorem dL_law_280 : decode cL_law 280 = .ok (.iconst 1, 1) := by decide +kernel
theorem dL_law_281 : decode cL_law 281 = .ok (.iadd, 1) := by decide +kernel
theorem dL_law_282 : decode cL_law 282 = .ok (.iaload, 1) := by decide +kernel
theorem dL_law_283 : decode cL_law 283 = .ok (.invokevirtual 28, 3) := by decide +kernel
theorem dL_law_286 : decode cL_law 286 = .ok (.aload_n 2, 1) := by decide +kernel
theorem dL_law_287 : decode cL_law 287 = .ok (.aload_n 0, 1) := by decide +kernel
theorem dL_law_288 : decode cL_law 288 = .ok (.iload_n 3, 1) := by decide +kernel
theorem dL_law_289 : decode cL_law 289 = .ok (.iconst 1, 1) := by decide +kernel
theorem dL_law_290 : decode cL_law 290 = .ok (.iadd, 1) := by decide +kernel
theorem dL_law_291 : decode cL_law 291 = .ok (.iaload, 1) := by decide +kernel
theorem dL_law_292 : decode cL_law 292 = .ok (.invokevirtual 31, 3) := by decide +kernel
theorem dL_law_295 : decode cL_law 295 = .ok (.if_icmp .eq 960, 3) := by decide +kernel
theorem dL_law_298 : decode cL_law 298 = .ok (.iconst 0, 1) := by decide +kernel
theorem dL_law_299 : decode cL_law 299 = .ok (.ireturn, 1) := by decide +kernel
theorem dL_law_300 : decode cL_law 300 = .ok (.aload_n 1, 1) := by decide +kernel
theorem dL_law_301 : decode cL_law 301 = .ok (.aload_n 0, 1) := by decide +kernel
theorem dL_law_302 : decode cL_law 302 = .ok (.iload_n 3, 1) := by decide +kernel
theorem dL_law_303 : decode cL_law 303 = .ok (.iconst 1, 1) := by decide +kernel
theorem dL_law_304 : decode cL_law 304 = .ok (.iadd, 1) := by decide +kernel
theorem dL_law_305 : decode cL_law 305 = .ok (.iaload, 1) := by decide +kernel
theorem dL_law_306 : decode cL_law 306 = .ok (.aload_n 0, 1) := by decide +kernel
theorem dL_law_307 : decode cL_law 307 = .ok (.iload_n 3, 1) := by decide +kernel
theorem dL_law_308 : decode cL_law 308 = .ok (.iconst 2, 1) := by decide +kernel
theorem dL_law_309 : decode cL_law 309 = .ok (.iadd, 1) := by decide +kernel
theorem dL_law_310 : decode cL_law 310 = .ok (.iaload, 1) := by decide +kernel
theorem dL_law_311 : decode cL_law 311 = .ok (.invokevirtual 32, 3) := by decide +kernel
theorem dL_law_314 : decode cL_law 314 = .ok (.aload_n 2, 1) := by decide +kernel
theorem dL_law_315 : decode cL_law 315 = .ok (.aload_n 0, 1) := by decide +kernel
theorem dL_law_316 : decode cL_law 316 = .ok (.iload_n 3, 1) := by decide +kernel
theorem dL_law_317 : decode cL_law 317 = .ok (.iconst 1, 1) := by decide +kernel
theorem dL_law_318 : decode cL_law 318 = .ok (.iadd, 1) := by decide +kernel
theorem dL_law_319 : decode cL_law 319 = .ok (.iaload, 1) := by decide +kernel
theorem dL_law_320 : decode cL_law 320 = .ok (.aload_n 0, 1) := by decide +kernel
theorem dL_law_321 : decode cL_law 321 = .ok (.iload_n 3, 1) := by decide +kernel
theorem dL_law_322 : decode cL_law 322 = .ok (.iconst 2, 1) := by decide +kernel
theorem dL_law_323 : decode cL_law 323 = .ok (.iadd, 1) := by decide +kernel
theorem dL_law_324 : decode cL_law 324 = .ok (.iaload, 1) := by decide +kernel
theorem dL_law_325 : decode cL_law 325 = .ok (.invokevirtual 36, 3) := by decide +kernel
theorem dL_law_328 : decode cL_law 328 = .ok (.if_icmp .eq 927, 3) := by decide +kernel
theorem dL_law_331 : decode cL_law 331 = .ok (.iconst 0, 1) := by decide +kernel
theorem dL_law_332 : decode cL_law 332 = .ok (.ireturn, 1) := by decide +kernel
theorem dL_law_333 : decode cL_law 333 = .ok (.aload_n 1, 1) := by decide +kernel
theorem dL_law_334 : decode cL_law 334 = .ok (.aload_n 0, 1) := by decide +kernel
theorem dL_law_335 : decode cL_law 335 = .ok (.iload_n 3, 1) := by decide +kernel
theorem dL_law_336 : decode cL_law 336 = .ok (.iconst 1, 1) := by decide +kernel
theorem dL_law_337 : decode cL_law 337 = .ok (.iadd, 1) := by decide +kernel
theorem dL_law_338 : decode cL_law 338 = .ok (.iaload, 1) := by decide +kernel
theorem dL_law_339 : decode cL_law 339 = .ok (.aload_n 0, 1) := by decide +kernel
theorem dL_law_340 : decode cL_law 340 = .ok (.iload_n 3, 1) := by decide +kernel
theorem dL_law_341 : decode cL_law 341 = .ok (.iconst 2, 1) := by decide +kernel
theorem dL_law_342 : decode cL_law 342 = .ok (.iadd, 1) := by decide +kernel
theorem dL_law_343 : decode cL_law 343 = .ok (.iaload, 1) := by decide +kernel
theorem dL_law_344 : decode cL_law 344 = .ok (.invokevirtual 37, 3) := by decide +kernel
theorem dL_law_347 : decode cL_law 347 = .ok (.aload_n 2, 1) := by decide +kernel
theorem dL_law_348 : decode cL_law 348 = .ok (.aload_n 0, 1) := by decide +kernel
theorem dL_law_349 : decode cL_law 349 = .ok (.iload_n 3, 1) := by decide +kernel
theorem dL_law_350 : decode cL_law 350 = .ok (.iconst 1, 1) := by decide +kernel
theorem dL_law_351 : decode cL_law 351 = .ok (.iadd, 1) := by decide +kernel
theorem dL_law_352 : decode cL_law 352 = .ok (.iaload, 1) := by decide +kernel
theorem dL_law_353 : decode cL_law 353 = .ok (.aload_n 0, 1) := by decide +kernel
theorem dL_law_354 : decode cL_law 354 = .ok (.iload_n 3, 1) := by decide +kernel
theorem dL_law_355 : decode cL_law 355 = .ok (.iconst 2, 1) := by decide +kernel
theorem dL_law_356 : decode cL_law 356 = .ok (.iadd, 1) := by decide +kernel
theorem dL_law_357 : decode cL_law 357 = .ok (.iaload, 1) := by decide +kernel
theorem dL_law_358 : decode cL_law 358 = .ok (.invokevirtual 40, 3) := by decide +kernel
theorem dL_law_361 : decode cL_law 361 = .ok (.if_icmp .eq 894, 3) := by decide +kernel
theorem dL_law_364 : decode cL_law 364 = .ok (.iconst 0, 1) := by decide +kernel
theorem dL_law_365 : decode cL_law 365 = .ok (.ireturn, 1) := by decide +kernel
theorem dL_law_366 : decode cL_law 366 = .ok (.aload_n 1, 1) := by decide +kernel
theorem dL_law_367 : decode cL_law 367 = .ok (.aload_n 0, 1) := by decide +kernel
theorem dL_law_368 : decode cL_law 368 = .ok (.iload_n 3, 1) := by decide +kernel
theorem dL_law_369 : decode cL_law 369 = .ok (.iconst 1, 1) := by decide +kernel
theorem dL_law_370 : decode cL_law 370 = .ok (.iadd, 1) := by decide +kernel
theorem dL_law_371 : decode cL_law 371 = .ok (.iaload, 1) := by decide +kernel
theorem dL_law_372 : decode cL_law 372 = .ok (.aload_n 0, 1) := by decide +kernel
theorem dL_law_373 : decode cL_law 373 = .ok (.iload_n 3, 1) := by decide +kernel
theorem dL_law_374 : decode cL_law 374 = .ok (.iconst 2, 1) := by decide +kernel
theorem dL_law_375 : decode cL_law 375 = .ok (.iadd, 1) := by decide +kernel
theorem dL_law_376 : decode cL_law 376 = .ok (.iaload, 1) := by decide +kernel
theorem dL_law_377 : decode cL_law 377 = .ok (.aload_n 0, 1) := by decide +kernel
theorem dL_law_378 : decode cL_law 378 = .ok (.iload_n 3, 1) := by decide +kernel
theorem dL_law_379 : decode cL_law 379 = .ok (.iconst 3, 1) := by decide +kernel
theorem dL_law_380 : decode cL_law 380 = .ok (.iadd, 1) := by decide +kernel
theorem dL_law_381 : decode cL_law 381 = .ok (.iaload, 1) := by decide +kernel
theorem dL_law_382 : decode cL_law 382 = .ok (.aload_n 0, 1) := by decide +kernel
theorem dL_law_383 : decode cL_law 383 = .ok (.iload_n 3, 1) := by decide +kernel
theorem dL_law_384 : decode cL_law 384 = .ok (.iconst 4, 1) := by decide +kernel
theorem dL_law_385 : decode cL_law 385 = .ok (.iadd, 1) := by decide +kernel
theorem dL_law_386 : decode cL_law 386 = .ok (.iaload, 1) := by decide +kernel
theorem dL_law_387 : decode cL_law 387 = .ok (.aload_n 0, 1) := by decide +kernel
theorem dL_law_388 : decode cL_law 388 = .ok (.iload_n 3, 1) := by decide +kernel
theorem dL_law_389 : decode cL_law 389 = .ok (.iconst 5, 1) := by decide +kernel
theorem dL_law_390 : decode cL_law 390 = .ok (.iadd, 1) := by decide +kernel
theorem dL_law_391 : decode cL_law 391 = .ok (.iaload, 1) := by decide +kernel
theorem dL_law_392 : decode cL_law 392 = .ok (.invokevirtual 41, 3) := by decide +kernel
theorem dL_law_395 : decode cL_law 395 = .ok (.aload_n 2, 1) := by decide +kernel
theorem dL_law_396 : decode cL_law 396 = .ok (.aload_n 0, 1) := by decide +kernel
theorem dL_law_397 : decode cL_law 397 = .ok (.iload_n 3, 1) := by decide +kernel
theorem dL_law_398 : decode cL_law 398 = .ok (.iconst 1, 1) := by decide +kernel
theorem dL_law_399 : decode cL_law 399 = .ok (.iadd, 1) := by decide +kernel
theorem dL_law_400 : decode cL_law 400 = .ok (.iaload, 1) := by decide +kernel
theorem dL_law_401 : decode cL_law 401 = .ok (.aload_n 0, 1) := by decide +kernel
theorem dL_law_402 : decode cL_law 402 = .ok (.iload_n 3, 1) := by decide +kernel
theorem dL_law_403 : decode cL_law 403 = .ok (.iconst 2, 1) := by decide +kernel
theorem dL_law_404 : decode cL_law 404 = .ok (.iadd, 1) := by decide +kernel
theorem dL_law_405 : decode cL_law 405 = .ok (.iaload, 1) := by decide +kernel
theorem dL_law_406 : decode cL_law 406 = .ok (.aload_n 0, 1) := by decide +kernel
theorem dL_law_407 : decode cL_law 407 = .ok (.iload_n 3, 1) := by decide +kernel
theorem dL_law_408 : decode cL_law 408 = .ok (.iconst 3, 1) := by decide +kernel
theorem dL_law_409 : decode cL_law 409 = .ok (.iadd, 1) := by decide +kernel
theorem dL_law_410 : decode cL_law 410 = .ok (.iaload, 1) := by decide +kernel
theorem dL_law_411 : decode cL_law 411 = .ok (.aload_n 0, 1) := by decide +kernel
theorem dL_law_412 : decode cL_law 412 = .ok (.iload_n 3, 1) := by decide +kernel
theorem dL_law_413 : decode cL_law 413 = .ok (.iconst 4, 1) := by decide +kernel
theorem dL_law_414 : decode cL_law 414 = .ok (.iadd, 1) := by decide +kernel
theorem dL_law_415 : decode cL_law 415 = .ok (.iaload, 1) := by decide +kernel
theorem dL_law_416 : decode cL_law 416 = .ok (.aload_n 0, 1) := by decide +kernel
theorem dL_law_417 : decode cL_law 417 = .ok (.iload_n 3, 1) := by decide +kernel
theorem dL_law_418 : decode cL_law 418 = .ok (.iconst 5, 1) := by decide +kernel
theorem dL_law_419 : decode cL_law 419 = .ok (.iadd, 1) := by decide +kernel
theorem dL_law_420 : decode cL_law 420 = .ok (.iaload, 1) := by decide +kernel
theorem dL_law_421 : decode cL_law 421 = .ok (.invokevirtual 45, 3) := by decide +kernel
theorem dL_law_424 : decode cL_law 424 = .ok (.if_icmp .eq 831, 3) := by decide +kernel
theorem dL_law_427 : decode cL_law 427 = .ok (.iconst 0, 1) := by decide +kernel
theorem dL_law_428 : decode cL_law 428 = .ok (.ireturn, 1) := by decide +kernel
theorem dL_law_429 : decode cL_law 429 = .ok (.aload_n 1, 1) := by decide +kernel
theorem dL_law_430 : decode cL_law 430 = .ok (.aload_n 0, 1) := by decide +kernel
theorem dL_law_431 : decode cL_law 431 = .ok (.iload_n 3, 1) := by decide +kernel
theorem dL_law_432 : decode cL_law 432 = .ok (.iconst 1, 1) := by decide +kernel
theorem dL_law_433 : decode cL_law 433 = .ok (.iadd, 1) := by decide +kernel
theorem dL_law_434 : decode cL_law 434 = .ok (.iaload, 1) := by decide +kernel
theorem dL_law_435 : decode cL_law 435 = .ok (.invokevirtual 46, 3) := by decide +kernel
theorem dL_law_438 : decode cL_law 438 = .ok (.aload_n 2, 1) := by decide +kernel
theorem dL_law_439 : decode cL_law 439 = .ok (.aload_n 0, 1) := by decide +kernel
theorem dL_law_440 : decode cL_law 440 = .ok (.iload_n 3, 1) := by decide +kernel
theorem dL_law_441 : decode cL_law 441 = .ok (.iconst 1, 1) := by decide +kernel
theorem dL_law_442 : decode cL_law 442 = .ok (.iadd, 1) := by decide +kernel
theorem dL_law_443 : decode cL_law 443 = .ok (.iaload, 1) := by decide +kernel
theorem dL_law_444 : decode cL_law 444 = .ok (.invokevirtual 50, 3) := by decide +kernel
theorem dL_law_447 : decode cL_law 447 = .ok (.if_icmp .eq 808, 3) := by decide +kernel
theorem dL_law_450 : decode cL_law 450 = .ok (.iconst 0, 1) := by decide +kernel
theorem dL_law_451 : decode cL_law 451 = .ok (.ireturn, 1) := by decide +kernel
theorem dL_law_452 : decode cL_law 452 = .ok (.aload_n 1, 1) := by decide +kernel
theorem dL_law_453 : decode cL_law 453 = .ok (.aload_n 0, 1) := by decide +kernel
theorem dL_law_454 : decode cL_law 454 = .ok (.iload_n 3, 1) := by decide +kernel
theorem dL_law_455 : decode cL_law 455 = .ok (.iconst 1, 1) := by decide +kernel
theorem dL_law_456 : decode cL_law 456 = .ok (.iadd, 1) := by decide +kernel
theorem dL_law_457 : decode cL_law 457 = .ok (.iaload, 1) := by decide +kernel
theorem dL_law_458 : decode cL_law 458 = .ok (.ifCond .eq 7, 3) := by decide +kernel
theorem dL_law_461 : decode cL_law 461 = .ok (.iconst 1, 1) := by decide +kernel
theorem dL_law_462 : decode cL_law 462 = .ok (.goto 4, 3) := by decide +kernel
theorem dL_law_465 : decode cL_law 465 = .ok (.iconst 0, 1) := by decide +kernel
theorem dL_law_466 : decode cL_law 466 = .ok (.invokevirtual 51, 3) := by decide +kernel
theorem dL_law_469 : decode cL_law 469 = .ok (.aload_n 2, 1) := by decide +kernel
theorem dL_law_470 : decode cL_law 470 = .ok (.aload_n 0, 1) := by decide +kernel
theorem dL_law_471 : decode cL_law 471 = .ok (.iload_n 3, 1) := by decide +kernel
theorem dL_law_472 : decode cL_law 472 = .ok (.iconst 1, 1) := by decide +kernel
theorem dL_law_473 : decode cL_law 473 = .ok (.iadd, 1) := by decide +kernel
theorem dL_law_474 : decode cL_law 474 = .ok (.iaload, 1) := by decide +kernel
theorem dL_law_475 : decode cL_law 475 = .ok (.ifCond .eq 7, 3) := by decide +kernel
theorem dL_law_478 : decode cL_law 478 = .ok (.iconst 1, 1) := by decide +kernel
theorem dL_law_479 : decode cL_law 479 = .ok (.goto 4, 3) := by decide +kernel
theorem dL_law_482 : decode cL_law 482 = .ok (.iconst 0, 1) := by decide +kernel
theorem dL_law_483 : decode cL_law 483 = .ok (.invokevirtual 55, 3) := by decide +kernel
theorem dL_law_486 : decode cL_law 486 = .ok (.if_icmp .eq 769, 3) := by decide +kernel
theorem dL_law_489 : decode cL_law 489 = .ok (.iconst 0, 1) := by decide +kernel
theorem dL_law_490 : decode cL_law 490 = .ok (.ireturn, 1) := by decide +kernel
theorem dL_law_491 : decode cL_law 491 = .ok (.aload_n 1, 1) := by decide +kernel
theorem dL_law_492 : decode cL_law 492 = .ok (.aload_n 0, 1) := by decide +kernel
theorem dL_law_493 : decode cL_law 493 = .ok (.iload_n 3, 1) := by decide +kernel
theorem dL_law_494 : decode cL_law 494 = .ok (.iconst 1, 1) := by decide +kernel
theorem dL_law_495 : decode cL_law 495 = .ok (.iadd, 1) := by decide +kernel
theorem dL_law_496 : decode cL_law 496 = .ok (.iaload, 1) := by decide +kernel
theorem dL_law_497 : decode cL_law 497 = .ok (.invokevirtual 56, 3) := by decide +kernel
theorem dL_law_500 : decode cL_law 500 = .ok (.aload_n 2, 1) := by decide +kernel
theorem dL_law_501 : decode cL_law 501 = .ok (.aload_n 0, 1) := by decide +kernel
theorem dL_law_502 : decode cL_law 502 = .ok (.iload_n 3, 1) := by decide +kernel
theorem dL_law_503 : decode cL_law 503 = .ok (.iconst 1, 1) := by decide +kernel
theorem dL_law_504 : decode cL_law 504 = .ok (.iadd, 1) := by decide +kernel
theorem dL_law_505 : decode cL_law 505 = .ok (.iaload, 1) := by decide +kernel
theorem dL_law_506 : decode cL_law 506 = .ok (.invokevirtual 59, 3) := by decide +kernel
theorem dL_law_509 : decode cL_law 509 = .ok (.if_icmp .eq 746, 3) := by decide +kernel
theorem dL_law_512 : decode cL_law 512 = .ok (.iconst 0, 1) := by decide +kernel
theorem dL_law_513 : decode cL_law 513 = .ok (.ireturn, 1) := by decide +kernel
theorem dL_law_514 : decode cL_law 514 = .ok (.aload_n 1, 1) := by decide +kernel
theorem dL_law_515 : decode cL_law 515 = .ok (.aload_n 0, 1) := by decide +kernel
theorem dL_law_516 : decode cL_law 516 = .ok (.iload_n 3, 1) := by decide +kernel
theorem dL_law_517 : decode cL_law 517 = .ok (.iconst 1, 1) := by decide +kernel
theorem dL_law_518 : decode cL_law 518 = .ok (.iadd, 1) := by decide +kernel
theorem dL_law_519 : decode cL_law 519 = .ok (.iaload, 1) := by decide +kernel
theorem dL_law_520 : decode cL_law 520 = .ok (.aload_n 0, 1) := by decide +kernel
theorem dL_law_521 : decode cL_law 521 = .ok (.iload_n 3, 1) := by decide +kernel
theorem dL_law_522 : decode cL_law 522 = .ok (.iconst 2, 1) := by decide +kernel
theorem dL_law_523 : decode cL_law 523 = .ok (.iadd, 1) := by decide +kernel
theorem dL_law_524 : decode cL_law 524 = .ok (.iaload, 1) := by decide +kernel
theorem dL_law_525 : decode cL_law 525 = .ok (.aload_n 0, 1) := by decide +kernel
theorem dL_law_526 : decode cL_law 526 = .ok (.iload_n 3, 1) := by decide +kernel
theorem dL_law_527 : decode cL_law 527 = .ok (.iconst 3, 1) := by decide +kernel
theorem dL_law_528 : decode cL_law 528 = .ok (.iadd, 1) := by decide +kernel
theorem dL_law_529 : decode cL_law 529 = .ok (.iaload, 1) := by decide +kernel
theorem dL_law_530 : decode cL_law 530 = .ok (.aload_n 0, 1) := by decide +kernel
theorem dL_law_531 : decode cL_law 531 = .ok (.iload_n 3, 1) := by decide +kernel
theorem dL_law_532 : decode cL_law 532 = .ok (.iconst 4, 1) := by decide +kernel
theorem dL_law_533 : decode cL_law 533 = .ok (.iadd, 1) := by decide +kernel
theorem dL_law_534 : decode cL_law 534 = .ok (.iaload, 1) := by decide +kernel
theorem dL_law_535 : decode cL_law 535 = .ok (.aload_n 0, 1) := by decide +kernel
theorem dL_law_536 : decode cL_law 536 = .ok (.iload_n 3, 1) := by decide +kernel
theorem dL_law_537 : decode cL_law 537 = .ok (.iconst 5, 1) := by decide +kernel
theorem dL_law_538 : decode cL_law 538 = .ok (.iadd, 1) := by decide +kernel
theorem dL_law_539 : decode cL_law 539 = .ok (.iaload, 1) := by decide +kernel
theorem dL_law_540 : decode cL_law 540 = .ok (.invokevirtual 60, 3) := by decide +kernel
theorem dL_law_543 : decode cL_law 543 = .ok (.aload_n 2, 1) := by decide +kernel
theorem dL_law_544 : decode cL_law 544 = .ok (.aload_n 0, 1) := by decide +kernel
theorem dL_law_545 : decode cL_law 545 = .ok (.iload_n 3, 1) := by decide +kernel
theorem dL_law_546 : decode cL_law 546 = .ok (.iconst 1, 1) := by decide +kernel
theorem dL_law_547 : decode cL_law 547 = .ok (.iadd, 1) := by decide +kernel
theorem dL_law_548 : decode cL_law 548 = .ok (.iaload, 1) := by decide +kernel
theorem dL_law_549 : decode cL_law 549 = .ok (.aload_n 0, 1) := by decide +kernel
theorem dL_law_550 : decode cL_law 550 = .ok (.iload_n 3, 1) := by decide +kernel
theorem dL_law_551 : decode cL_law 551 = .ok (.iconst 2, 1) := by decide +kernel
theorem dL_law_552 : decode cL_law 552 = .ok (.iadd, 1) := by decide +kernel
theorem dL_law_553 : decode cL_law 553 = .ok (.iaload, 1) := by decide +kernel
theorem dL_law_554 : decode cL_law 554 = .ok (.aload_n 0, 1) := by decide +kernel
theorem dL_law_555 : decode cL_law 555 = .ok (.iload_n 3, 1) := by decide +kernel
theorem dL_law_556 : decode cL_law 556 = .ok (.iconst 3, 1) := by decide +kernel
theorem dL_law_557 : decode cL_law 557 = .ok (.iadd, 1) := by decide +kernel
theorem dL_law_558 : decode cL_law 558 = .ok (.iaload, 1) := by decide +kernel
theorem dL_law_559 : decode cL_law 559 = .ok (.aload_n 0, 1) := by decide +kernel
theorem dL_law_560 : decode cL_law 560 = .ok (.iload_n 3, 1) := by decide +kernel
theorem dL_law_561 : decode cL_law 561 = .ok (.iconst 4, 1) := by decide +kernel
theorem dL_law_562 : decode cL_law 562 = .ok (.iadd, 1) := by decide +kernel
theorem dL_law_563 : decode cL_law 563 = .ok (.iaload, 1) := by decide +kernel
theorem dL_law_564 : decode cL_law 564 = .ok (.aload_n 0, 1) := by decide +kernel
theorem dL_law_565 : decode cL_law 565 = .ok (.iload_n 3, 1) := by decide +kernel
theorem dL_law_566 : decode cL_law 566 = .ok (.iconst 5, 1) := by decide +kernel
theorem dL_law_567 : decode cL_law 567 = .ok (.iadd, 1) := by decide +kernel
theorem dL_law_568 : decode cL_law 568 = .ok (.iaload, 1) := by decide +kernel
theorem dL_law_569 : decode cL_law 569 = .ok (.invokevirtual 64, 3) := by decide +kernel
theorem dL_law_572 : decode cL_law 572 = .ok (.if_icmp .eq 683, 3) := by decide +kernel
theorem dL_law_575 : decode cL_law 575 = .ok (.iconst 0, 1) := by decide +kernel
theorem dL_law_576 : decode cL_law 576 = .ok (.ireturn, 1) := by decide +kernel
theorem dL_law_577 : decode cL_law 577 = .ok (.aload_n 1, 1) := by decide +kernel
theorem dL_law_578 : decode cL_law 578 = .ok (.aload_n 0, 1) := by decide +kernel
theorem dL_law_579 : decode cL_law 579 = .ok (.iload_n 3, 1) := by decide +kernel
theorem dL_law_580 : decode cL_law 580 = .ok (.iconst 1, 1) := by decide +kernel
theorem dL_law_581 : decode cL_law 581 = .ok (.iadd, 1) := by decide +kernel
theorem dL_law_582 : decode cL_law 582 = .ok (.iaload, 1) := by decide +kernel
theorem dL_law_583 : decode cL_law 583 = .ok (.aload_n 0, 1) := by decide +kernel
theorem dL_law_584 : decode cL_law 584 = .ok (.iload_n 3, 1) := by decide +kernel
theorem dL_law_585 : decode cL_law 585 = .ok (.iconst 2, 1) := by decide +kernel
theorem dL_law_586 : decode cL_law 586 = .ok (.iadd, 1) := by decide +kernel
theorem dL_law_587 : decode cL_law 587 = .ok (.iaload, 1) := by decide +kernel
theorem dL_law_588 : decode cL_law 588 = .ok (.invokevirtual 65, 3) := by decide +kernel
theorem dL_law_591 : decode cL_law 591 = .ok (.aload_n 2, 1) := by decide +kernel
theorem dL_law_592 : decode cL_law 592 = .ok (.aload_n 0, 1) := by decide +kernel
theorem dL_law_593 : decode cL_law 593 = .ok (.iload_n 3, 1) := by decide +kernel
theorem dL_law_594 : decode cL_law 594 = .ok (.iconst 1, 1) := by decide +kernel
theorem dL_law_595 : decode cL_law 595 = .ok (.iadd, 1) := by decide +kernel
theorem dL_law_596 : decode cL_law 596 = .ok (.iaload, 1) := by decide +kernel
theorem dL_law_597 : decode cL_law 597 = .ok (.aload_n 0, 1) := by decide +kernel
theorem dL_law_598 : decode cL_law 598 = .ok (.iload_n 3, 1) := by decide +kernel
theorem dL_law_599 : decode cL_law 599 = .ok (.iconst 2, 1) := by decide +kernel
theorem dL_law_600 : decode cL_law 600 = .ok (.iadd, 1) := by decide +kernel
theorem dL_law_601 : decode cL_law 601 = .ok (.iaload, 1) := by decide +kernel
theorem dL_law_602 : decode cL_law 602 = .ok (.invokevirtual 68, 3) := by decide +kernel
theorem dL_law_605 : decode cL_law 605 = .ok (.if_icmp .eq 650, 3) := by decide +kernel
theorem dL_law_608 : decode cL_law 608 = .ok (.iconst 0, 1) := by decide +kernel
theorem dL_law_609 : decode cL_law 609 = .ok (.ireturn, 1) := by decide +kernel
theorem dL_law_610 : decode cL_law 610 = .ok (.aload_n 1, 1) := by decide +kernel
theorem dL_law_611 : decode cL_law 611 = .ok (.aload_n 0, 1) := by decide +kernel
theorem dL_law_612 : decode cL_law 612 = .ok (.iload_n 3, 1) := by decide +kernel
theorem dL_law_613 : decode cL_law 613 = .ok (.iconst 1, 1) := by decide +kernel
theorem dL_law_614 : decode cL_law 614 = .ok (.iadd, 1) := by decide +kernel
theorem dL_law_615 : decode cL_law 615 = .ok (.iaload, 1) := by decide +kernel
theorem dL_law_616 : decode cL_law 616 = .ok (.aload_n 0, 1) := by decide +kernel
theorem dL_law_617 : decode cL_law 617 = .ok (.iload_n 3, 1) := by decide +kernel
theorem dL_law_618 : decode cL_law 618 = .ok (.iconst 2, 1) := by decide +kernel
theorem dL_law_619 : decode cL_law 619 = .ok (.iadd, 1) := by decide +kernel
theorem dL_law_620 : decode cL_law 620 = .ok (.iaload, 1) := by decide +kernel
theorem dL_law_621 : decode cL_law 621 = .ok (.aload_n 0, 1) := by decide +kernel
theorem dL_law_622 : decode cL_law 622 = .ok (.iload_n 3, 1) := by decide +kernel
theorem dL_law_623 : decode cL_law 623 = .ok (.iconst 3, 1) := by decide +kernel
theorem dL_law_624 : decode cL_law 624 = .ok (.iadd, 1) := by decide +kernel
theorem dL_law_625 : decode cL_law 625 = .ok (.iaload, 1) := by decide +kernel
theorem dL_law_626 : decode cL_law 626 = .ok (.invokevirtual 69, 3) := by decide +kernel
theorem dL_law_629 : decode cL_law 629 = .ok (.aload_n 2, 1) := by decide +kernel
theorem dL_law_630 : decode cL_law 630 = .ok (.aload_n 0, 1) := by decide +kernel
theorem dL_law_631 : decode cL_law 631 = .ok (.iload_n 3, 1) := by decide +kernel
theorem dL_law_632 : decode cL_law 632 = .ok (.iconst 1, 1) := by decide +kernel
theorem dL_law_633 : decode cL_law 633 = .ok (.iadd, 1) := by decide +kernel
theorem dL_law_634 : decode cL_law 634 = .ok (.iaload, 1) := by decide +kernel
theorem dL_law_635 : decode cL_law 635 = .ok (.aload_n 0, 1) := by decide +kernel
theorem dL_law_636 : decode cL_law 636 = .ok (.iload_n 3, 1) := by decide +kernel
theorem dL_law_637 : decode cL_law 637 = .ok (.iconst 2, 1) := by decide +kernel
theorem dL_law_638 : decode cL_law 638 = .ok (.iadd, 1) := by decide +kernel
theorem dL_law_639 : decode cL_law 639 = .ok (.iaload, 1) := by decide +kernel
theorem dL_law_640 : decode cL_law 640 = .ok (.aload_n 0, 1) := by decide +kernel
theorem dL_law_641 : decode cL_law 641 = .ok (.iload_n 3, 1) := by decide +kernel
theorem dL_law_642 : decode cL_law 642 = .ok (.iconst 3, 1) := by decide +kernel
theorem dL_law_643 : decode cL_law 643 = .ok (.iadd, 1) := by decide +kernel
theorem dL_law_644 : decode cL_law 644 = .ok (.iaload, 1) := by decide +kernel
theorem dL_law_645 : decode cL_law 645 = .ok (.invokevirtual 72, 3) := by decide +kernel
theorem dL_law_648 : decode cL_law 648 = .ok (.if_icmp .eq 607, 3) := by decide +kernel
theorem dL_law_651 : decode cL_law 651 = .ok (.iconst 0, 1) := by decide +kernel
theorem dL_law_652 : decode cL_law 652 = .ok (.ireturn, 1) := by decide +kernel
theorem dL_law_653 : decode cL_law 653 = .ok (.aload_n 1, 1) := by decide +kernel
theorem dL_law_654 : decode cL_law 654 = .ok (.aload_n 0, 1) := by decide +kernel
theorem dL_law_655 : decode cL_law 655 = .ok (.iload_n 3, 1) := by decide +kernel
theorem dL_law_656 : decode cL_law 656 = .ok (.iconst 1, 1) := by decide +kernel
theorem dL_law_657 : decode cL_law 657 = .ok (.iadd, 1) := by decide +kernel
theorem dL_law_658 : decode cL_law 658 = .ok (.iaload, 1) := by decide +kernel
theorem dL_law_659 : decode cL_law 659 = .ok (.invokevirtual 73, 3) := by decide +kernel
theorem dL_law_662 : decode cL_law 662 = .ok (.aload_n 2, 1) := by decide +kernel
theorem dL_law_663 : decode cL_law 663 = .ok (.aload_n 0, 1) := by decide +kernel
theorem dL_law_664 : decode cL_law 664 = .ok (.iload_n 3, 1) := by decide +kernel
theorem dL_law_665 : decode cL_law 665 = .ok (.iconst 1, 1) := by decide +kernel
theorem dL_law_666 : decode cL_law 666 = .ok (.iadd, 1) := by decide +kernel
theorem dL_law_667 : decode cL_law 667 = .ok (.iaload, 1) := by decide +kernel
theorem dL_law_668 : decode cL_law 668 = .ok (.invokevirtual 76, 3) := by decide +kernel
theorem dL_law_671 : decode cL_law 671 = .ok (.if_icmp .eq 584, 3) := by decide +kernel
theorem dL_law_674 : decode cL_law 674 = .ok (.iconst 0, 1) := by decide +kernel
theorem dL_law_675 : decode cL_law 675 = .ok (.ireturn, 1) := by decide +kernel
theorem dL_law_676 : decode cL_law 676 = .ok (.aload_n 1, 1) := by decide +kernel
theorem dL_law_677 : decode cL_law 677 = .ok (.aload_n 0, 1) := by decide +kernel
theorem dL_law_678 : decode cL_law 678 = .ok (.iload_n 3, 1) := by decide +kernel
theorem dL_law_679 : decode cL_law 679 = .ok (.iconst 1, 1) := by decide +kernel
theorem dL_law_680 : decode cL_law 680 = .ok (.iadd, 1) := by decide +kernel
theorem dL_law_681 : decode cL_law 681 = .ok (.iaload, 1) := by decide +kernel
theorem dL_law_682 : decode cL_law 682 = .ok (.aload_n 0, 1) := by decide +kernel
theorem dL_law_683 : decode cL_law 683 = .ok (.iload_n 3, 1) := by decide +kernel
theorem dL_law_684 : decode cL_law 684 = .ok (.iconst 2, 1) := by decide +kernel
theorem dL_law_685 : decode cL_law 685 = .ok (.iadd, 1) := by decide +kernel
theorem dL_law_686 : decode cL_law 686 = .ok (.iaload, 1) := by decide +kernel
theorem dL_law_687 : decode cL_law 687 = .ok (.invokevirtual 77, 3) := by decide +kernel
theorem dL_law_690 : decode cL_law 690 = .ok (.aload_n 2, 1) := by decide +kernel
theorem dL_law_691 : decode cL_law 691 = .ok (.aload_n 0, 1) := by decide +kernel
theorem dL_law_692 : decode cL_law 692 = .ok (.iload_n 3, 1) := by decide +kernel
theorem dL_law_693 : decode cL_law 693 = .ok (.iconst 1, 1) := by decide +kernel
theorem dL_law_694 : decode cL_law 694 = .ok (.iadd, 1) := by decide +kernel
theorem dL_law_695 : decode cL_law 695 = .ok (.iaload, 1) := by decide +kernel
theorem dL_law_696 : decode cL_law 696 = .ok (.aload_n 0, 1) := by decide +kernel
theorem dL_law_697 : decode cL_law 697 = .ok (.iload_n 3, 1) := by decide +kernel
theorem dL_law_698 : decode cL_law 698 = .ok (.iconst 2, 1) := by decide +kernel
theorem dL_law_699 : decode cL_law 699 = .ok (.iadd, 1) := by decide +kernel
theorem dL_law_700 : decode cL_law 700 = .ok (.iaload, 1) := by decide +kernel
theorem dL_law_701 : decode cL_law 701 = .ok (.invokevirtual 80, 3) := by decide +kernel
theorem dL_law_704 : decode cL_law 704 = .ok (.if_icmp .eq 551, 3) := by decide +kernel
theorem dL_law_707 : decode cL_law 707 = .ok (.iconst 0, 1) := by decide +kernel
theorem dL_law_708 : decode cL_law 708 = .ok (.ireturn, 1) := by decide +kernel
theorem dL_law_709 : decode cL_law 709 = .ok (.aload_n 1, 1) := by decide +kernel
theorem dL_law_710 : decode cL_law 710 = .ok (.aload_n 0, 1) := by decide +kernel
theorem dL_law_711 : decode cL_law 711 = .ok (.iload_n 3, 1) := by decide +kernel
theorem dL_law_712 : decode cL_law 712 = .ok (.iconst 1, 1) := by decide +kernel
theorem dL_law_713 : decode cL_law 713 = .ok (.iadd, 1) := by decide +kernel
theorem dL_law_714 : decode cL_law 714 = .ok (.iaload, 1) := by decide +kernel
theorem dL_law_715 : decode cL_law 715 = .ok (.aload_n 0, 1) := by decide +kernel
theorem dL_law_716 : decode cL_law 716 = .ok (.iload_n 3, 1) := by decide +kernel
theorem dL_law_717 : decode cL_law 717 = .ok (.iconst 2, 1) := by decide +kernel
theorem dL_law_718 : decode cL_law 718 = .ok (.iadd, 1) := by decide +kernel
theorem dL_law_719 : decode cL_law 719 = .ok (.iaload, 1) := by decide +kernel
theorem dL_law_720 : decode cL_law 720 = .ok (.aload_n 0, 1) := by decide +kernel
theorem dL_law_721 : decode cL_law 721 = .ok (.iload_n 3, 1) := by decide +kernel
theorem dL_law_722 : decode cL_law 722 = .ok (.iconst 3, 1) := by decide +kernel
theorem dL_law_723 : decode cL_law 723 = .ok (.iadd, 1) := by decide +kernel
theorem dL_law_724 : decode cL_law 724 = .ok (.iaload, 1) := by decide +kernel
theorem dL_law_725 : decode cL_law 725 = .ok (.invokevirtual 81, 3) := by decide +kernel
theorem dL_law_728 : decode cL_law 728 = .ok (.aload_n 2, 1) := by decide +kernel
theorem dL_law_729 : decode cL_law 729 = .ok (.aload_n 0, 1) := by decide +kernel
theorem dL_law_730 : decode cL_law 730 = .ok (.iload_n 3, 1) := by decide +kernel
theorem dL_law_731 : decode cL_law 731 = .ok (.iconst 1, 1) := by decide +kernel
theorem dL_law_732 : decode cL_law 732 = .ok (.iadd, 1) := by decide +kernel
theorem dL_law_733 : decode cL_law 733 = .ok (.iaload, 1) := by decide +kernel
theorem dL_law_734 : decode cL_law 734 = .ok (.aload_n 0, 1) := by decide +kernel
theorem dL_law_735 : decode cL_law 735 = .ok (.iload_n 3, 1) := by decide +kernel
theorem dL_law_736 : decode cL_law 736 = .ok (.iconst 2, 1) := by decide +kernel
theorem dL_law_737 : decode cL_law 737 = .ok (.iadd, 1) := by decide +kernel
theorem dL_law_738 : decode cL_law 738 = .ok (.iaload, 1) := by decide +kernel
theorem dL_law_739 : decode cL_law 739 = .ok (.aload_n 0, 1) := by decide +kernel
theorem dL_law_740 : decode cL_law 740 = .ok (.iload_n 3, 1) := by decide +kernel
theorem dL_law_741 : decode cL_law 741 = .ok (.iconst 3, 1) := by decide +kernel
theorem dL_law_742 : decode cL_law 742 = .ok (.iadd, 1) := by decide +kernel
theorem dL_law_743 : decode cL_law 743 = .ok (.iaload, 1) := by decide +kernel
theorem dL_law_744 : decode cL_law 744 = .ok (.invokevirtual 84, 3) := by decide +kernel
theorem dL_law_747 : decode cL_law 747 = .ok (.if_icmp .eq 508, 3) := by decide +kernel
theorem dL_law_750 : decode cL_law 750 = .ok (.iconst 0, 1) := by decide +kernel
theorem dL_law_751 : decode cL_law 751 = .ok (.ireturn, 1) := by decide +kernel
theorem dL_law_752 : decode cL_law 752 = .ok (.aload_n 1, 1) := by decide +kernel
theorem dL_law_753 : decode cL_law 753 = .ok (.aload_n 0, 1) := by decide +kernel
theorem dL_law_754 : decode cL_law 754 = .ok (.iload_n 3, 1) := by decide +kernel
theorem dL_law_755 : decode cL_law 755 = .ok (.iconst 1, 1) := by decide +kernel
theorem dL_law_756 : decode cL_law 756 = .ok (.iadd, 1) := by decide +kernel
theorem dL_law_757 : decode cL_law 757 = .ok (.iaload, 1) := by decide +kernel
theorem dL_law_758 : decode cL_law 758 = .ok (.aload_n 0, 1) := by decide +kernel
theorem dL_law_759 : decode cL_law 759 = .ok (.iload_n 3, 1) := by decide +kernel
theorem dL_law_760 : decode cL_law 760 = .ok (.iconst 2, 1) := by decide +kernel
theorem dL_law_761 : decode cL_law 761 = .ok (.iadd, 1) := by decide +kernel
theorem dL_law_762 : decode cL_law 762 = .ok (.iaload, 1) := by decide +kernel
theorem dL_law_763 : decode cL_law 763 = .ok (.invokevirtual 85, 3) := by decide +kernel
theorem dL_law_766 : decode cL_law 766 = .ok (.aload_n 2, 1) := by decide +kernel
theorem dL_law_767 : decode cL_law 767 = .ok (.aload_n 0, 1) := by decide +kernel
theorem dL_law_768 : decode cL_law 768 = .ok (.iload_n 3, 1) := by decide +kernel
theorem dL_law_769 : decode cL_law 769 = .ok (.iconst 1, 1) := by decide +kernel
theorem dL_law_770 : decode cL_law 770 = .ok (.iadd, 1) := by decide +kernel
theorem dL_law_771 : decode cL_law 771 = .ok (.iaload, 1) := by decide +kernel
theorem dL_law_772 : decode cL_law 772 = .ok (.aload_n 0, 1) := by decide +kernel
theorem dL_law_773 : decode cL_law 773 = .ok (.iload_n 3, 1) := by decide +kernel
theorem dL_law_774 : decode cL_law 774 = .ok (.iconst 2, 1) := by decide +kernel
theorem dL_law_775 : decode cL_law 775 = .ok (.iadd, 1) := by decide +kernel
theorem dL_law_776 : decode cL_law 776 = .ok (.iaload, 1) := by decide +kernel
theorem dL_law_777 : decode cL_law 777 = .ok (.invokevirtual 88, 3) := by decide +kernel
theorem dL_law_780 : decode cL_law 780 = .ok (.if_icmp .eq 475, 3) := by decide +kernel
theorem dL_law_783 : decode cL_law 783 = .ok (.iconst 0, 1) := by decide +kernel
theorem dL_law_784 : decode cL_law 784 = .ok (.ireturn, 1) := by decide +kernel
theorem dL_law_785 : decode cL_law 785 = .ok (.aload_n 1, 1) := by decide +kernel
theorem dL_law_786 : decode cL_law 786 = .ok (.aload_n 0, 1) := by decide +kernel
theorem dL_law_787 : decode cL_law 787 = .ok (.iload_n 3, 1) := by decide +kernel
theorem dL_law_788 : decode cL_law 788 = .ok (.iconst 1, 1) := by decide +kernel
theorem dL_law_789 : decode cL_law 789 = .ok (.iadd, 1) := by decide +kernel
theorem dL_law_790 : decode cL_law 790 = .ok (.iaload, 1) := by decide +kernel
theorem dL_law_791 : decode cL_law 791 = .ok (.aload_n 0, 1) := by decide +kernel
theorem dL_law_792 : decode cL_law 792 = .ok (.iload_n 3, 1) := by decide +kernel
theorem dL_law_793 : decode cL_law 793 = .ok (.iconst 2, 1) := by decide +kernel
theorem dL_law_794 : decode cL_law 794 = .ok (.iadd, 1) := by decide +kernel
theorem dL_law_795 : decode cL_law 795 = .ok (.iaload, 1) := by decide +kernel
theorem dL_law_796 : decode cL_law 796 = .ok (.invokevirtual 89, 3) := by decide +kernel
theorem dL_law_799 : decode cL_law 799 = .ok (.aload_n 2, 1) := by decide +kernel
theorem dL_law_800 : decode cL_law 800 = .ok (.aload_n 0, 1) := by decide +kernel
theorem dL_law_801 : decode cL_law 801 = .ok (.iload_n 3, 1) := by decide +kernel
theorem dL_law_802 : decode cL_law 802 = .ok (.iconst 1, 1) := by decide +kernel
theorem dL_law_803 : decode cL_law 803 = .ok (.iadd, 1) := by decide +kernel
theorem dL_law_804 : decode cL_law 804 = .ok (.iaload, 1) := by decide +kernel
theorem dL_law_805 : decode cL_law 805 = .ok (.aload_n 0, 1) := by decide +kernel
theorem dL_law_806 : decode cL_law 806 = .ok (.iload_n 3, 1) := by decide +kernel
theorem dL_law_807 : decode cL_law 807 = .ok (.iconst 2, 1) := by decide +kernel
theorem dL_law_808 : decode cL_law 808 = .ok (.iadd, 1) := by decide +kernel
theorem dL_law_809 : decode cL_law 809 = .ok (.iaload, 1) := by decide +kernel
theorem dL_law_810 : decode cL_law 810 = .ok (.invokevirtual 93, 3) := by decide +kernel
theorem dL_law_813 : decode cL_law 813 = .ok (.lcmp, 1) := by decide +kernel
theorem dL_law_814 : decode cL_law 814 = .ok (.ifCond .eq 441, 3) := by decide +kernel
theorem dL_law_817 : decode cL_law 817 = .ok (.iconst 0, 1) := by decide +kernel
theorem dL_law_818 : decode cL_law 818 = .ok (.ireturn, 1) := by decide +kernel
theorem dL_law_819 : decode cL_law 819 = .ok (.aload_n 1, 1) := by decide +kernel
theorem dL_law_820 : decode cL_law 820 = .ok (.aload_n 0, 1) := by decide +kernel
theorem dL_law_821 : decode cL_law 821 = .ok (.iload_n 3, 1) := by decide +kernel
theorem dL_law_822 : decode cL_law 822 = .ok (.iconst 1, 1) := by decide +kernel
theorem dL_law_823 : decode cL_law 823 = .ok (.iadd, 1) := by decide +kernel
theorem dL_law_824 : decode cL_law 824 = .ok (.iaload, 1) := by decide +kernel
theorem dL_law_825 : decode cL_law 825 = .ok (.invokevirtual 94, 3) := by decide +kernel
theorem dL_law_828 : decode cL_law 828 = .ok (.aload_n 2, 1) := by decide +kernel
theorem dL_law_829 : decode cL_law 829 = .ok (.aload_n 0, 1) := by decide +kernel
theorem dL_law_830 : decode cL_law 830 = .ok (.iload_n 3, 1) := by decide +kernel
theorem dL_law_831 : decode cL_law 831 = .ok (.iconst 1, 1) := by decide +kernel
theorem dL_law_832 : decode cL_law 832 = .ok (.iadd, 1) := by decide +kernel
theorem dL_law_833 : decode cL_law 833 = .ok (.iaload, 1) := by decide +kernel
theorem dL_law_834 : decode cL_law 834 = .ok (.invokevirtual 97, 3) := by decide +kernel
theorem dL_law_837 : decode cL_law 837 = .ok (.if_icmp .eq 418, 3) := by decide +kernel
theorem dL_law_840 : decode cL_law 840 = .ok (.iconst 0, 1) := by decide +kernel
theorem dL_law_841 : decode cL_law 841 = .ok (.ireturn, 1) := by decide +kernel
theorem dL_law_842 : decode cL_law 842 = .ok (.aload_n 1, 1) := by decide +kernel
theorem dL_law_843 : decode cL_law 843 = .ok (.aload_n 0, 1) := by decide +kernel
theorem dL_law_844 : decode cL_law 844 = .ok (.iload_n 3, 1) := by decide +kernel
theorem dL_law_845 : decode cL_law 845 = .ok (.iconst 1, 1) := by decide +kernel
theorem dL_law_846 : decode cL_law 846 = .ok (.iadd, 1) := by decide +kernel
theorem dL_law_847 : decode cL_law 847 = .ok (.iaload, 1) := by decide +kernel
theorem dL_law_848 : decode cL_law 848 = .ok (.aload_n 0, 1) := by decide +kernel
theorem dL_law_849 : decode cL_law 849 = .ok (.iload_n 3, 1) := by decide +kernel
theorem dL_law_850 : decode cL_law 850 = .ok (.iconst 2, 1) := by decide +kernel
theorem dL_law_851 : decode cL_law 851 = .ok (.iadd, 1) := by decide +kernel
theorem dL_law_852 : decode cL_law 852 = .ok (.iaload, 1) := by decide +kernel
theorem dL_law_853 : decode cL_law 853 = .ok (.aload_n 0, 1) := by decide +kernel
theorem dL_law_854 : decode cL_law 854 = .ok (.iload_n 3, 1) := by decide +kernel
theorem dL_law_855 : decode cL_law 855 = .ok (.iconst 3, 1) := by decide +kernel
theorem dL_law_856 : decode cL_law 856 = .ok (.iadd, 1) := by decide +kernel
theorem dL_law_857 : decode cL_law 857 = .ok (.iaload, 1) := by decide +kernel
theorem dL_law_858 : decode cL_law 858 = .ok (.invokevirtual 98, 3) := by decide +kernel
theorem dL_law_861 : decode cL_law 861 = .ok (.aload_n 2, 1) := by decide +kernel
theorem dL_law_862 : decode cL_law 862 = .ok (.aload_n 0, 1) := by decide +kernel
theorem dL_law_863 : decode cL_law 863 = .ok (.iload_n 3, 1) := by decide +kernel
theorem dL_law_864 : decode cL_law 864 = .ok (.iconst 1, 1) := by decide +kernel
theorem dL_law_865 : decode cL_law 865 = .ok (.iadd, 1) := by decide +kernel
theorem dL_law_866 : decode cL_law 866 = .ok (.iaload, 1) := by decide +kernel
theorem dL_law_867 : decode cL_law 867 = .ok (.aload_n 0, 1) := by decide +kernel
theorem dL_law_868 : decode cL_law 868 = .ok (.iload_n 3, 1) := by decide +kernel
theorem dL_law_869 : decode cL_law 869 = .ok (.iconst 2, 1) := by decide +kernel
theorem dL_law_870 : decode cL_law 870 = .ok (.iadd, 1) := by decide +kernel
theorem dL_law_871 : decode cL_law 871 = .ok (.iaload, 1) := by decide +kernel
theorem dL_law_872 : decode cL_law 872 = .ok (.aload_n 0, 1) := by decide +kernel
theorem dL_law_873 : decode cL_law 873 = .ok (.iload_n 3, 1) := by decide +kernel
theorem dL_law_874 : decode cL_law 874 = .ok (.iconst 3, 1) := by decide +kernel
theorem dL_law_875 : decode cL_law 875 = .ok (.iadd, 1) := by decide +kernel
theorem dL_law_876 : decode cL_law 876 = .ok (.iaload, 1) := by decide +kernel
theorem dL_law_877 : decode cL_law 877 = .ok (.invokevirtual 101, 3) := by decide +kernel
theorem dL_law_880 : decode cL_law 880 = .ok (.if_icmp .eq 375, 3) := by decide +kernel
theorem dL_law_883 : decode cL_law 883 = .ok (.iconst 0, 1) := by decide +kernel
theorem dL_law_884 : decode cL_law 884 = .ok (.ireturn, 1) := by decide +kernel
theorem dL_law_885 : decode cL_law 885 = .ok (.aload_n 1, 1) := by decide +kernel
theorem dL_law_886 : decode cL_law 886 = .ok (.aload_n 0, 1) := by decide +kernel
theorem dL_law_887 : decode cL_law 887 = .ok (.iload_n 3, 1) := by decide +kernel
theorem dL_law_888 : decode cL_law 888 = .ok (.iconst 1, 1) := by decide +kernel
theorem dL_law_889 : decode cL_law 889 = .ok (.iadd, 1) := by decide +kernel
theorem dL_law_890 : decode cL_law 890 = .ok (.iaload, 1) := by decide +kernel
theorem dL_law_891 : decode cL_law 891 = .ok (.aload_n 0, 1) := by decide +kernel
theorem dL_law_892 : decode cL_law 892 = .ok (.iload_n 3, 1) := by decide +kernel
theorem dL_law_893 : decode cL_law 893 = .ok (.iconst 2, 1) := by decide +kernel
theorem dL_law_894 : decode cL_law 894 = .ok (.iadd, 1) := by decide +kernel
theorem dL_law_895 : decode cL_law 895 = .ok (.iaload, 1) := by decide +kernel
theorem dL_law_896 : decode cL_law 896 = .ok (.aload_n 0, 1) := by decide +kernel
theorem dL_law_897 : decode cL_law 897 = .ok (.iload_n 3, 1) := by decide +kernel
theorem dL_law_898 : decode cL_law 898 = .ok (.iconst 3, 1) := by decide +kernel
theorem dL_law_899 : decode cL_law 899 = .ok (.iadd, 1) := by decide +kernel
theorem dL_law_900 : decode cL_law 900 = .ok (.iaload, 1) := by decide +kernel
theorem dL_law_901 : decode cL_law 901 = .ok (.invokevirtual 102, 3) := by decide +kernel
theorem dL_law_904 : decode cL_law 904 = .ok (.aload_n 2, 1) := by decide +kernel
theorem dL_law_905 : decode cL_law 905 = .ok (.aload_n 0, 1) := by decide +kernel
theorem dL_law_906 : decode cL_law 906 = .ok (.iload_n 3, 1) := by decide +kernel
theorem dL_law_907 : decode cL_law 907 = .ok (.iconst 1, 1) := by decide +kernel
theorem dL_law_908 : decode cL_law 908 = .ok (.iadd, 1) := by decide +kernel
theorem dL_law_909 : decode cL_law 909 = .ok (.iaload, 1) := by decide +kernel
theorem dL_law_910 : decode cL_law 910 = .ok (.aload_n 0, 1) := by decide +kernel
theorem dL_law_911 : decode cL_law 911 = .ok (.iload_n 3, 1) := by decide +kernel
theorem dL_law_912 : decode cL_law 912 = .ok (.iconst 2, 1) := by decide +kernel
theorem dL_law_913 : decode cL_law 913 = .ok (.iadd, 1) := by decide +kernel
theorem dL_law_914 : decode cL_law 914 = .ok (.iaload, 1) := by decide +kernel
theorem dL_law_915 : decode cL_law 915 = .ok (.aload_n 0, 1) := by decide +kernel
theorem dL_law_916 : decode cL_law 916 = .ok (.iload_n 3, 1) := by decide +kernel
theorem dL_law_917 : decode cL_law 917 = .ok (.iconst 3, 1) := by decide +kernel
theorem dL_law_918 : decode cL_law 918 = .ok (.iadd, 1) := by decide +kernel
theorem dL_law_919 : decode cL_law 919 = .ok (.iaload, 1) := by decide +kernel
theorem dL_law_920 : decode cL_law 920 = .ok (.invokevirtual 105, 3) := by decide +kernel
theorem dL_law_923 : decode cL_law 923 = .ok (.if_icmp .eq 332, 3) := by decide +kernel
theorem dL_law_926 : decode cL_law 926 = .ok (.iconst 0, 1) := by decide +kernel
theorem dL_law_927 : decode cL_law 927 = .ok (.ireturn, 1) := by decide +kernel
theorem dL_law_928 : decode cL_law 928 = .ok (.aload_n 1, 1) := by decide +kernel
theorem dL_law_929 : decode cL_law 929 = .ok (.aload_n 0, 1) := by decide +kernel
theorem dL_law_930 : decode cL_law 930 = .ok (.iload_n 3, 1) := by decide +kernel
theorem dL_law_931 : decode cL_law 931 = .ok (.iconst 1, 1) := by decide +kernel
theorem dL_law_932 : decode cL_law 932 = .ok (.iadd, 1) := by decide +kernel
theorem dL_law_933 : decode cL_law 933 = .ok (.iaload, 1) := by decide +kernel
theorem dL_law_934 : decode cL_law 934 = .ok (.aload_n 0, 1) := by decide +kernel
theorem dL_law_935 : decode cL_law 935 = .ok (.iload_n 3, 1) := by decide +kernel
theorem dL_law_936 : decode cL_law 936 = .ok (.iconst 2, 1) := by decide +kernel
theorem dL_law_937 : decode cL_law 937 = .ok (.iadd, 1) := by decide +kernel
theorem dL_law_938 : decode cL_law 938 = .ok (.iaload, 1) := by decide +kernel
theorem dL_law_939 : decode cL_law 939 = .ok (.aload_n 0, 1) := by decide +kernel
theorem dL_law_940 : decode cL_law 940 = .ok (.iload_n 3, 1) := by decide +kernel
theorem dL_law_941 : decode cL_law 941 = .ok (.iconst 3, 1) := by decide +kernel
theorem dL_law_942 : decode cL_law 942 = .ok (.iadd, 1) := by decide +kernel
theorem dL_law_943 : decode cL_law 943 = .ok (.iaload, 1) := by decide +kernel
theorem dL_law_944 : decode cL_law 944 = .ok (.aload_n 0, 1) := by decide +kernel
theorem dL_law_945 : decode cL_law 945 = .ok (.iload_n 3, 1) := by decide +kernel
theorem dL_law_946 : decode cL_law 946 = .ok (.iconst 4, 1) := by decide +kernel
theorem dL_law_947 : decode cL_law 947 = .ok (.iadd, 1) := by decide +kernel
theorem dL_law_948 : decode cL_law 948 = .ok (.iaload, 1) := by decide +kernel
theorem dL_law_949 : decode cL_law 949 = .ok (.aload_n 0, 1) := by decide +kernel
theorem dL_law_950 : decode cL_law 950 = .ok (.iload_n 3, 1) := by decide +kernel
theorem dL_law_951 : decode cL_law 951 = .ok (.iconst 5, 1) := by decide +kernel
theorem dL_law_952 : decode cL_law 952 = .ok (.iadd, 1) := by decide +kernel
theorem dL_law_953 : decode cL_law 953 = .ok (.iaload, 1) := by decide +kernel
theorem dL_law_954 : decode cL_law 954 = .ok (.invokevirtual 106, 3) := by decide +kernel
theorem dL_law_957 : decode cL_law 957 = .ok (.aload_n 2, 1) := by decide +kernel
theorem dL_law_958 : decode cL_law 958 = .ok (.aload_n 0, 1) := by decide +kernel
theorem dL_law_959 : decode cL_law 959 = .ok (.iload_n 3, 1) := by decide +kernel
theorem dL_law_960 : decode cL_law 960 = .ok (.iconst 1, 1) := by decide +kernel
theorem dL_law_961 : decode cL_law 961 = .ok (.iadd, 1) := by decide +kernel
theorem dL_law_962 : decode cL_law 962 = .ok (.iaload, 1) := by decide +kernel
theorem dL_law_963 : decode cL_law 963 = .ok (.aload_n 0, 1) := by decide +kernel
theorem dL_law_964 : decode cL_law 964 = .ok (.iload_n 3, 1) := by decide +kernel
theorem dL_law_965 : decode cL_law 965 = .ok (.iconst 2, 1) := by decide +kernel
theorem dL_law_966 : decode cL_law 966 = .ok (.iadd, 1) := by decide +kernel
theorem dL_law_967 : decode cL_law 967 = .ok (.iaload, 1) := by decide +kernel
theorem dL_law_968 : decode cL_law 968 = .ok (.aload_n 0, 1) := by decide +kernel
theorem dL_law_969 : decode cL_law 969 = .ok (.iload_n 3, 1) := by decide +kernel
theorem dL_law_970 : decode cL_law 970 = .ok (.iconst 3, 1) := by decide +kernel
theorem dL_law_971 : decode cL_law 971 = .ok (.iadd, 1) := by decide +kernel
theorem dL_law_972 : decode cL_law 972 = .ok (.iaload, 1) := by decide +kernel
theorem dL_law_973 : decode cL_law 973 = .ok (.aload_n 0, 1) := by decide +kernel
theorem dL_law_974 : decode cL_law 974 = .ok (.iload_n 3, 1) := by decide +kernel
theorem dL_law_975 : decode cL_law 975 = .ok (.iconst 4, 1) := by decide +kernel
theorem dL_law_976 : decode cL_law 976 = .ok (.iadd, 1) := by decide +kernel
theorem dL_law_977 : decode cL_law 977 = .ok (.iaload, 1) := by decide +kernel
theorem dL_law_978 : decode cL_law 978 = .ok (.aload_n 0, 1) := by decide +kernel
theorem dL_law_979 : decode cL_law 979 = .ok (.iload_n 3, 1) := by decide +kernel
end
section
theorem dL_law_980 : decode cL_law 980 = .ok (.iconst 5, 1) := by decide +kernel
theorem dL_law_981 : decode cL_law 981 = .ok (.iadd, 1) := by decide +kernel
theorem dL_law_982 : decode cL_law 982 = .ok (.iaload, 1) := by decide +kernel
theorem dL_law_983 : decode cL_law 983 = .ok (.invokevirtual 109, 3) := by decide +kernel
theorem dL_law_986 : decode cL_law 986 = .ok (.if_icmp .eq 269, 3) := by decide +kernel
theorem dL_law_989 : decode cL_law 989 = .ok (.iconst 0, 1) := by decide +kernel
theorem dL_law_990 : decode cL_law 990 = .ok (.ireturn, 1) := by decide +kernel
theorem dL_law_991 : decode cL_law 991 = .ok (.aload_n 1, 1) := by decide +kernel
theorem dL_law_992 : decode cL_law 992 = .ok (.aload_n 0, 1) := by decide +kernel
theorem dL_law_993 : decode cL_law 993 = .ok (.iload_n 3, 1) := by decide +kernel
theorem dL_law_994 : decode cL_law 994 = .ok (.iconst 1, 1) := by decide +kernel
theorem dL_law_995 : decode cL_law 995 = .ok (.iadd, 1) := by decide +kernel
theorem dL_law_996 : decode cL_law 996 = .ok (.iaload, 1) := by decide +kernel
theorem dL_law_997 : decode cL_law 997 = .ok (.aload_n 0, 1) := by decide +kernel
theorem dL_law_998 : decode cL_law 998 = .ok (.iload_n 3, 1) := by decide +kernel
theorem dL_law_999 : decode cL_law 999 = .ok (.iconst 2, 1) := by decide +kernel
theorem dL_law_1000 : decode cL_law 1000 = .ok (.iadd, 1) := by decide +kernel
theorem dL_law_1001 : decode cL_law 1001 = .ok (.iaload, 1) := by decide +kernel
theorem dL_law_1002 : decode cL_law 1002 = .ok (.aload_n 0, 1) := by decide +kernel
theorem dL_law_1003 : decode cL_law 1003 = .ok (.iload_n 3, 1) := by decide +kernel
theorem dL_law_1004 : decode cL_law 1004 = .ok (.iconst 3, 1) := by decide +kernel
theorem dL_law_1005 : decode cL_law 1005 = .ok (.iadd, 1) := by decide +kernel
theorem dL_law_1006 : decode cL_law 1006 = .ok (.iaload, 1) := by decide +kernel
theorem dL_law_1007 : decode cL_law 1007 = .ok (.invokevirtual 110, 3) := by decide +kernel
theorem dL_law_1010 : decode cL_law 1010 = .ok (.aload_n 2, 1) := by decide +kernel
theorem dL_law_1011 : decode cL_law 1011 = .ok (.aload_n 0, 1) := by decide +kernel
theorem dL_law_1012 : decode cL_law 1012 = .ok (.iload_n 3, 1) := by decide +kernel
theorem dL_law_1013 : decode cL_law 1013 = .ok (.iconst 1, 1) := by decide +kernel
theorem dL_law_1014 : decode cL_law 1014 = .ok (.iadd, 1) := by decide +kernel
theorem dL_law_1015 : decode cL_law 1015 = .ok (.iaload, 1) := by decide +kernel
theorem dL_law_1016 : decode cL_law 1016 = .ok (.aload_n 0, 1) := by decide +kernel
theorem dL_law_1017 : decode cL_law 1017 = .ok (.iload_n 3, 1) := by decide +kernel
theorem dL_law_1018 : decode cL_law 1018 = .ok (.iconst 2, 1) := by decide +kernel
theorem dL_law_1019 : decode cL_law 1019 = .ok (.iadd, 1) := by decide +kernel
theorem dL_law_1020 : decode cL_law 1020 = .ok (.iaload, 1) := by decide +kernel
theorem dL_law_1021 : decode cL_law 1021 = .ok (.aload_n 0, 1) := by decide +kernel
theorem dL_law_1022 : decode cL_law 1022 = .ok (.iload_n 3, 1) := by decide +kernel
theorem dL_law_1023 : decode cL_law 1023 = .ok (.iconst 3, 1) := by decide +kernel
theorem dL_law_1024 : decode cL_law 1024 = .ok (.iadd, 1) := by decide +kernel
theorem dL_law_1025 : decode cL_law 1025 = .ok (.iaload, 1) := by decide +kernel
theorem dL_law_1026 : decode cL_law 1026 = .ok (.invokevirtual 113, 3) := by decide +kernel
theorem dL_law_1029 : decode cL_law 1029 = .ok (.if_icmp .eq 226, 3) := by decide +kernel
theorem dL_law_1032 : decode cL_law 1032 = .ok (.iconst 0, 1) := by decide +kernel
theorem dL_law_1033 : decode cL_law 1033 = .ok (.ireturn, 1) := by decide +kernel
theorem dL_law_1034 : decode cL_law 1034 = .ok (.aload_n 1, 1) := by decide +kernel
theorem dL_law_1035 : decode cL_law 1035 = .ok (.aload_n 0, 1) := by decide +kernel
theorem dL_law_1036 : decode cL_law 1036 = .ok (.iload_n 3, 1) := by decide +kernel
theorem dL_law_1037 : decode cL_law 1037 = .ok (.iconst 1, 1) := by decide +kernel
theorem dL_law_1038 : decode cL_law 1038 = .ok (.iadd, 1) := by decide +kernel
theorem dL_law_1039 : decode cL_law 1039 = .ok (.iaload, 1) := by decide +kernel
theorem dL_law_1040 : decode cL_law 1040 = .ok (.aload_n 0, 1) := by decide +kernel
theorem dL_law_1041 : decode cL_law 1041 = .ok (.iload_n 3, 1) := by decide +kernel
theorem dL_law_1042 : decode cL_law 1042 = .ok (.iconst 2, 1) := by decide +kernel
theorem dL_law_1043 : decode cL_law 1043 = .ok (.iadd, 1) := by decide +kernel
theorem dL_law_1044 : decode cL_law 1044 = .ok (.iaload, 1) := by decide +kernel
theorem dL_law_1045 : decode cL_law 1045 = .ok (.aload_n 0, 1) := by decide +kernel
theorem dL_law_1046 : decode cL_law 1046 = .ok (.iload_n 3, 1) := by decide +kernel
theorem dL_law_1047 : decode cL_law 1047 = .ok (.iconst 3, 1) := by decide +kernel
theorem dL_law_1048 : decode cL_law 1048 = .ok (.iadd, 1) := by decide +kernel
theorem dL_law_1049 : decode cL_law 1049 = .ok (.iaload, 1) := by decide +kernel
theorem dL_law_1050 : decode cL_law 1050 = .ok (.invokevirtual 114, 3) := by decide +kernel
theorem dL_law_1053 : decode cL_law 1053 = .ok (.aload_n 2, 1) := by decide +kernel
theorem dL_law_1054 : decode cL_law 1054 = .ok (.aload_n 0, 1) := by decide +kernel
theorem dL_law_1055 : decode cL_law 1055 = .ok (.iload_n 3, 1) := by decide +kernel
theorem dL_law_1056 : decode cL_law 1056 = .ok (.iconst 1, 1) := by decide +kernel
theorem dL_law_1057 : decode cL_law 1057 = .ok (.iadd, 1) := by decide +kernel
theorem dL_law_1058 : decode cL_law 1058 = .ok (.iaload, 1) := by decide +kernel
theorem dL_law_1059 : decode cL_law 1059 = .ok (.aload_n 0, 1) := by decide +kernel
theorem dL_law_1060 : decode cL_law 1060 = .ok (.iload_n 3, 1) := by decide +kernel
theorem dL_law_1061 : decode cL_law 1061 = .ok (.iconst 2, 1) := by decide +kernel
theorem dL_law_1062 : decode cL_law 1062 = .ok (.iadd, 1) := by decide +kernel
theorem dL_law_1063 : decode cL_law 1063 = .ok (.iaload, 1) := by decide +kernel
theorem dL_law_1064 : decode cL_law 1064 = .ok (.aload_n 0, 1) := by decide +kernel
theorem dL_law_1065 : decode cL_law 1065 = .ok (.iload_n 3, 1) := by decide +kernel
theorem dL_law_1066 : decode cL_law 1066 = .ok (.iconst 3, 1) := by decide +kernel
theorem dL_law_1067 : decode cL_law 1067 = .ok (.iadd, 1) := by decide +kernel
theorem dL_law_1068 : decode cL_law 1068 = .ok (.iaload, 1) := by decide +kernel
theorem dL_law_1069 : decode cL_law 1069 = .ok (.invokevirtual 117, 3) := by decide +kernel
theorem dL_law_1072 : decode cL_law 1072 = .ok (.if_icmp .eq 183, 3) := by decide +kernel
theorem dL_law_1075 : decode cL_law 1075 = .ok (.iconst 0, 1) := by decide +kernel
theorem dL_law_1076 : decode cL_law 1076 = .ok (.ireturn, 1) := by decide +kernel
theorem dL_law_1077 : decode cL_law 1077 = .ok (.aload_n 1, 1) := by decide +kernel
theorem dL_law_1078 : decode cL_law 1078 = .ok (.aload_n 0, 1) := by decide +kernel
theorem dL_law_1079 : decode cL_law 1079 = .ok (.iload_n 3, 1) := by decide +kernel
theorem dL_law_1080 : decode cL_law 1080 = .ok (.iconst 1, 1) := by decide +kernel
theorem dL_law_1081 : decode cL_law 1081 = .ok (.iadd, 1) := by decide +kernel
theorem dL_law_1082 : decode cL_law 1082 = .ok (.iaload, 1) := by decide +kernel
theorem dL_law_1083 : decode cL_law 1083 = .ok (.aload_n 0, 1) := by decide +kernel
theorem dL_law_1084 : decode cL_law 1084 = .ok (.iload_n 3, 1) := by decide +kernel
theorem dL_law_1085 : decode cL_law 1085 = .ok (.iconst 2, 1) := by decide +kernel
theorem dL_law_1086 : decode cL_law 1086 = .ok (.iadd, 1) := by decide +kernel
theorem dL_law_1087 : decode cL_law 1087 = .ok (.iaload, 1) := by decide +kernel
theorem dL_law_1088 : decode cL_law 1088 = .ok (.invokevirtual 118, 3) := by decide +kernel
theorem dL_law_1091 : decode cL_law 1091 = .ok (.aload_n 2, 1) := by decide +kernel
theorem dL_law_1092 : decode cL_law 1092 = .ok (.aload_n 0, 1) := by decide +kernel
theorem dL_law_1093 : decode cL_law 1093 = .ok (.iload_n 3, 1) := by decide +kernel
theorem dL_law_1094 : decode cL_law 1094 = .ok (.iconst 1, 1) := by decide +kernel
theorem dL_law_1095 : decode cL_law 1095 = .ok (.iadd, 1) := by decide +kernel
theorem dL_law_1096 : decode cL_law 1096 = .ok (.iaload, 1) := by decide +kernel
theorem dL_law_1097 : decode cL_law 1097 = .ok (.aload_n 0, 1) := by decide +kernel
theorem dL_law_1098 : decode cL_law 1098 = .ok (.iload_n 3, 1) := by decide +kernel
theorem dL_law_1099 : decode cL_law 1099 = .ok (.iconst 2, 1) := by decide +kernel
theorem dL_law_1100 : decode cL_law 1100 = .ok (.iadd, 1) := by decide +kernel
theorem dL_law_1101 : decode cL_law 1101 = .ok (.iaload, 1) := by decide +kernel
theorem dL_law_1102 : decode cL_law 1102 = .ok (.invokevirtual 121, 3) := by decide +kernel
theorem dL_law_1105 : decode cL_law 1105 = .ok (.if_icmp .eq 150, 3) := by decide +kernel
theorem dL_law_1108 : decode cL_law 1108 = .ok (.iconst 0, 1) := by decide +kernel
theorem dL_law_1109 : decode cL_law 1109 = .ok (.ireturn, 1) := by decide +kernel
theorem dL_law_1110 : decode cL_law 1110 = .ok (.aload_n 1, 1) := by decide +kernel
theorem dL_law_1111 : decode cL_law 1111 = .ok (.aload_n 0, 1) := by decide +kernel
theorem dL_law_1112 : decode cL_law 1112 = .ok (.iload_n 3, 1) := by decide +kernel
theorem dL_law_1113 : decode cL_law 1113 = .ok (.iconst 1, 1) := by decide +kernel
theorem dL_law_1114 : decode cL_law 1114 = .ok (.iadd, 1) := by decide +kernel
theorem dL_law_1115 : decode cL_law 1115 = .ok (.iaload, 1) := by decide +kernel
theorem dL_law_1116 : decode cL_law 1116 = .ok (.aload_n 0, 1) := by decide +kernel
theorem dL_law_1117 : decode cL_law 1117 = .ok (.iload_n 3, 1) := by decide +kernel
theorem dL_law_1118 : decode cL_law 1118 = .ok (.iconst 2, 1) := by decide +kernel
theorem dL_law_1119 : decode cL_law 1119 = .ok (.iadd, 1) := by decide +kernel
theorem dL_law_1120 : decode cL_law 1120 = .ok (.iaload, 1) := by decide +kernel
theorem dL_law_1121 : decode cL_law 1121 = .ok (.invokevirtual 122, 3) := by decide +kernel
theorem dL_law_1124 : decode cL_law 1124 = .ok (.aload_n 2, 1) := by decide +kernel
theorem dL_law_1125 : decode cL_law 1125 = .ok (.aload_n 0, 1) := by decide +kernel
theorem dL_law_1126 : decode cL_law 1126 = .ok (.iload_n 3, 1) := by decide +kernel
theorem dL_law_1127 : decode cL_law 1127 = .ok (.iconst 1, 1) := by decide +kernel
theorem dL_law_1128 : decode cL_law 1128 = .ok (.iadd, 1) := by decide +kernel
theorem dL_law_1129 : decode cL_law 1129 = .ok (.iaload, 1) := by decide +kernel
theorem dL_law_1130 : decode cL_law 1130 = .ok (.aload_n 0, 1) := by decide +kernel
theorem dL_law_1131 : decode cL_law 1131 = .ok (.iload_n 3, 1) := by decide +kernel
theorem dL_law_1132 : decode cL_law 1132 = .ok (.iconst 2, 1) := by decide +kernel
theorem dL_law_1133 : decode cL_law 1133 = .ok (.iadd, 1) := by decide +kernel
theorem dL_law_1134 : decode cL_law 1134 = .ok (.iaload, 1) := by decide +kernel
theorem dL_law_1135 : decode cL_law 1135 = .ok (.invokevirtual 125, 3) := by decide +kernel
theorem dL_law_1138 : decode cL_law 1138 = .ok (.if_icmp .eq 117, 3) := by decide +kernel
theorem dL_law_1141 : decode cL_law 1141 = .ok (.iconst 0, 1) := by decide +kernel
theorem dL_law_1142 : decode cL_law 1142 = .ok (.ireturn, 1) := by decide +kernel
theorem dL_law_1143 : decode cL_law 1143 = .ok (.aload_n 1, 1) := by decide +kernel
theorem dL_law_1144 : decode cL_law 1144 = .ok (.aload_n 0, 1) := by decide +kernel
theorem dL_law_1145 : decode cL_law 1145 = .ok (.iload_n 3, 1) := by decide +kernel
theorem dL_law_1146 : decode cL_law 1146 = .ok (.iconst 1, 1) := by decide +kernel
theorem dL_law_1147 : decode cL_law 1147 = .ok (.iadd, 1) := by decide +kernel
theorem dL_law_1148 : decode cL_law 1148 = .ok (.iaload, 1) := by decide +kernel
theorem dL_law_1149 : decode cL_law 1149 = .ok (.aload_n 0, 1) := by decide +kernel
theorem dL_law_1150 : decode cL_law 1150 = .ok (.iload_n 3, 1) := by decide +kernel
theorem dL_law_1151 : decode cL_law 1151 = .ok (.iconst 2, 1) := by decide +kernel
theorem dL_law_1152 : decode cL_law 1152 = .ok (.iadd, 1) := by decide +kernel
theorem dL_law_1153 : decode cL_law 1153 = .ok (.iaload, 1) := by decide +kernel
theorem dL_law_1154 : decode cL_law 1154 = .ok (.aload_n 0, 1) := by decide +kernel
theorem dL_law_1155 : decode cL_law 1155 = .ok (.iload_n 3, 1) := by decide +kernel
theorem dL_law_1156 : decode cL_law 1156 = .ok (.iconst 3, 1) := by decide +kernel
theorem dL_law_1157 : decode cL_law 1157 = .ok (.iadd, 1) := by decide +kernel
theorem dL_law_1158 : decode cL_law 1158 = .ok (.iaload, 1) := by decide +kernel
theorem dL_law_1159 : decode cL_law 1159 = .ok (.invokevirtual 126, 3) := by decide +kernel
theorem dL_law_1162 : decode cL_law 1162 = .ok (.aload_n 2, 1) := by decide +kernel
theorem dL_law_1163 : decode cL_law 1163 = .ok (.aload_n 0, 1) := by decide +kernel
theorem dL_law_1164 : decode cL_law 1164 = .ok (.iload_n 3, 1) := by decide +kernel
theorem dL_law_1165 : decode cL_law 1165 = .ok (.iconst 1, 1) := by decide +kernel
theorem dL_law_1166 : decode cL_law 1166 = .ok (.iadd, 1) := by decide +kernel
theorem dL_law_1167 : decode cL_law 1167 = .ok (.iaload, 1) := by decide +kernel
theorem dL_law_1168 : decode cL_law 1168 = .ok (.aload_n 0, 1) := by decide +kernel
theorem dL_law_1169 : decode cL_law 1169 = .ok (.iload_n 3, 1) := by decide +kernel
theorem dL_law_1170 : decode cL_law 1170 = .ok (.iconst 2, 1) := by decide +kernel
theorem dL_law_1171 : decode cL_law 1171 = .ok (.iadd, 1) := by decide +kernel
theorem dL_law_1172 : decode cL_law 1172 = .ok (.iaload, 1) := by decide +kernel
theorem dL_law_1173 : decode cL_law 1173 = .ok (.aload_n 0, 1) := by decide +kernel
theorem dL_law_1174 : decode cL_law 1174 = .ok (.iload_n 3, 1) := by decide +kernel
theorem dL_law_1175 : decode cL_law 1175 = .ok (.iconst 3, 1) := by decide +kernel
theorem dL_law_1176 : decode cL_law 1176 = .ok (.iadd, 1) := by decide +kernel
theorem dL_law_1177 : decode cL_law 1177 = .ok (.iaload, 1) := by decide +kernel
theorem dL_law_1178 : decode cL_law 1178 = .ok (.invokevirtual 129, 3) := by decide +kernel
theorem dL_law_1181 : decode cL_law 1181 = .ok (.if_icmp .eq 74, 3) := by decide +kernel
theorem dL_law_1184 : decode cL_law 1184 = .ok (.iconst 0, 1) := by decide +kernel
theorem dL_law_1185 : decode cL_law 1185 = .ok (.ireturn, 1) := by decide +kernel
theorem dL_law_1186 : decode cL_law 1186 = .ok (.aload_n 1, 1) := by decide +kernel
theorem dL_law_1187 : decode cL_law 1187 = .ok (.aload_n 0, 1) := by decide +kernel
theorem dL_law_1188 : decode cL_law 1188 = .ok (.iload_n 3, 1) := by decide +kernel
theorem dL_law_1189 : decode cL_law 1189 = .ok (.iconst 1, 1) := by decide +kernel
theorem dL_law_1190 : decode cL_law 1190 = .ok (.iadd, 1) := by decide +kernel
theorem dL_law_1191 : decode cL_law 1191 = .ok (.iaload, 1) := by decide +kernel
theorem dL_law_1192 : decode cL_law 1192 = .ok (.invokevirtual 130, 3) := by decide +kernel
theorem dL_law_1195 : decode cL_law 1195 = .ok (.aload_n 2, 1) := by decide +kernel
theorem dL_law_1196 : decode cL_law 1196 = .ok (.aload_n 0, 1) := by decide +kernel
theorem dL_law_1197 : decode cL_law 1197 = .ok (.iload_n 3, 1) := by decide +kernel
theorem dL_law_1198 : decode cL_law 1198 = .ok (.iconst 1, 1) := by decide +kernel
theorem dL_law_1199 : decode cL_law 1199 = .ok (.iadd, 1) := by decide +kernel
theorem dL_law_1200 : decode cL_law 1200 = .ok (.iaload, 1) := by decide +kernel
theorem dL_law_1201 : decode cL_law 1201 = .ok (.invokevirtual 133, 3) := by decide +kernel
theorem dL_law_1204 : decode cL_law 1204 = .ok (.if_icmp .eq 51, 3) := by decide +kernel
theorem dL_law_1207 : decode cL_law 1207 = .ok (.iconst 0, 1) := by decide +kernel
theorem dL_law_1208 : decode cL_law 1208 = .ok (.ireturn, 1) := by decide +kernel
theorem dL_law_1209 : decode cL_law 1209 = .ok (.aload_n 1, 1) := by decide +kernel
theorem dL_law_1210 : decode cL_law 1210 = .ok (.aload_n 0, 1) := by decide +kernel
theorem dL_law_1211 : decode cL_law 1211 = .ok (.iload_n 3, 1) := by decide +kernel
theorem dL_law_1212 : decode cL_law 1212 = .ok (.iconst 1, 1) := by decide +kernel
theorem dL_law_1213 : decode cL_law 1213 = .ok (.iadd, 1) := by decide +kernel
theorem dL_law_1214 : decode cL_law 1214 = .ok (.iaload, 1) := by decide +kernel
theorem dL_law_1215 : decode cL_law 1215 = .ok (.invokevirtual 134, 3) := by decide +kernel
theorem dL_law_1218 : decode cL_law 1218 = .ok (.aload_n 2, 1) := by decide +kernel
theorem dL_law_1219 : decode cL_law 1219 = .ok (.aload_n 0, 1) := by decide +kernel
theorem dL_law_1220 : decode cL_law 1220 = .ok (.iload_n 3, 1) := by decide +kernel
theorem dL_law_1221 : decode cL_law 1221 = .ok (.iconst 1, 1) := by decide +kernel
theorem dL_law_1222 : decode cL_law 1222 = .ok (.iadd, 1) := by decide +kernel
theorem dL_law_1223 : decode cL_law 1223 = .ok (.iaload, 1) := by decide +kernel
theorem dL_law_1224 : decode cL_law 1224 = .ok (.invokevirtual 137, 3) := by decide +kernel
theorem dL_law_1227 : decode cL_law 1227 = .ok (.if_icmp .eq 28, 3) := by decide +kernel
theorem dL_law_1230 : decode cL_law 1230 = .ok (.iconst 0, 1) := by decide +kernel
theorem dL_law_1231 : decode cL_law 1231 = .ok (.ireturn, 1) := by decide +kernel
theorem dL_law_1232 : decode cL_law 1232 = .ok (.aload_n 1, 1) := by decide +kernel
theorem dL_law_1233 : decode cL_law 1233 = .ok (.aload_n 0, 1) := by decide +kernel
theorem dL_law_1234 : decode cL_law 1234 = .ok (.iload_n 3, 1) := by decide +kernel
theorem dL_law_1235 : decode cL_law 1235 = .ok (.iconst 1, 1) := by decide +kernel
theorem dL_law_1236 : decode cL_law 1236 = .ok (.iadd, 1) := by decide +kernel
theorem dL_law_1237 : decode cL_law 1237 = .ok (.iaload, 1) := by decide +kernel
theorem dL_law_1238 : decode cL_law 1238 = .ok (.invokevirtual 138, 3) := by decide +kernel
theorem dL_law_1241 : decode cL_law 1241 = .ok (.aload_n 2, 1) := by decide +kernel
theorem dL_law_1242 : decode cL_law 1242 = .ok (.aload_n 0, 1) := by decide +kernel
theorem dL_law_1243 : decode cL_law 1243 = .ok (.iload_n 3, 1) := by decide +kernel
theorem dL_law_1244 : decode cL_law 1244 = .ok (.iconst 1, 1) := by decide +kernel
theorem dL_law_1245 : decode cL_law 1245 = .ok (.iadd, 1) := by decide +kernel
theorem dL_law_1246 : decode cL_law 1246 = .ok (.iaload, 1) := by decide +kernel
theorem dL_law_1247 : decode cL_law 1247 = .ok (.invokevirtual 141, 3) := by decide +kernel
theorem dL_law_1250 : decode cL_law 1250 = .ok (.if_icmp .eq 5, 3) := by decide +kernel
theorem dL_law_1253 : decode cL_law 1253 = .ok (.iconst 0, 1) := by decide +kernel
theorem dL_law_1254 : decode cL_law 1254 = .ok (.ireturn, 1) := by decide +kernel
theorem dL_law_1255 : decode cL_law 1255 = .ok (.iinc 3 6, 3) := by decide +kernel
theorem dL_law_1258 : decode cL_law 1258 = .ok (.goto (-1240), 3) := by decide +kernel
theorem dL_law_1261 : decode cL_law 1261 = .ok (.iconst 1, 1) := by decide +kernel
theorem dL_law_1262 : decode cL_law 1262 = .ok (.ireturn, 1) := by decide +kernel
end
