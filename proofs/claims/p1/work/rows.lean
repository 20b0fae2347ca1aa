section
-- ===== PART A: goes FIRST, ahead of the names: the tables' words, and 'selects' of the private methods out of them =====
/-- a private method of a class that the tables say can be made, by its rows of tables_1 -/
def lw_okq (q : MethodName × Nat) : Prop := (q.1.cls ≠ "java/lang/invoke/MethodHandle" ∧ q.1.cls ≠ "java/lang/invoke/VarHandle") ∧ Cond.instantiable q.1.cls q.2 ∈ tables_1 ∧ Cond.privateMethod q.1 ∈ tables_1 ∧ Cond.instanceMethod q.1 ∈ tables_1
theorem lw_p0 : lw_okq (⟨"RiverWage", "isToldKitchen", "(I)Z"⟩, 20) := ⟨⟨by decide +kernel, by decide +kernel⟩, List.mem_of_getElem? (i := 29) (by decide +kernel), List.mem_of_getElem? (i := 370) (by decide +kernel), List.mem_of_getElem? (i := 371) (by decide +kernel)⟩
theorem lw_p1 : lw_okq (⟨"RiverWage", "fillByBounds", "(IIZ)V"⟩, 20) := ⟨⟨by decide +kernel, by decide +kernel⟩, List.mem_of_getElem? (i := 29) (by decide +kernel), List.mem_of_getElem? (i := 439) (by decide +kernel), List.mem_of_getElem? (i := 440) (by decide +kernel)⟩
theorem lw_p2 : lw_okq (⟨"RiverWage", "boundHands", "(IIZ)I"⟩, 20) := ⟨⟨by decide +kernel, by decide +kernel⟩, List.mem_of_getElem? (i := 29) (by decide +kernel), List.mem_of_getElem? (i := 452) (by decide +kernel), List.mem_of_getElem? (i := 453) (by decide +kernel)⟩
theorem lw_p3 : lw_okq (⟨"RiverWage", "silentAmong", "(III)I"⟩, 20) := ⟨⟨by decide +kernel, by decide +kernel⟩, List.mem_of_getElem? (i := 29) (by decide +kernel), List.mem_of_getElem? (i := 510) (by decide +kernel), List.mem_of_getElem? (i := 511) (by decide +kernel)⟩
theorem lw_p4 : lw_okq (⟨"RiverWage", "fillByCalls", "(II)V"⟩, 20) := ⟨⟨by decide +kernel, by decide +kernel⟩, List.mem_of_getElem? (i := 29) (by decide +kernel), List.mem_of_getElem? (i := 522) (by decide +kernel), List.mem_of_getElem? (i := 523) (by decide +kernel)⟩
theorem lw_p5 : lw_okq (⟨"RiverWage$Sides", "gatherBoth", "()V"⟩, 5) := ⟨⟨by decide +kernel, by decide +kernel⟩, List.mem_of_getElem? (i := 87) (by decide +kernel), List.mem_of_getElem? (i := 543) (by decide +kernel), List.mem_of_getElem? (i := 544) (by decide +kernel)⟩
theorem lw_p6 : lw_okq (⟨"RiverWage$Sides", "sumOfRow", "(I)I"⟩, 5) := ⟨⟨by decide +kernel, by decide +kernel⟩, List.mem_of_getElem? (i := 87) (by decide +kernel), List.mem_of_getElem? (i := 556) (by decide +kernel), List.mem_of_getElem? (i := 557) (by decide +kernel)⟩
theorem lw_p7 : lw_okq (⟨"RiverWage", "readInto", "(LRiverWage$Reader;LRiverWage$Script;)I"⟩, 20) := ⟨⟨by decide +kernel, by decide +kernel⟩, List.mem_of_getElem? (i := 29) (by decide +kernel), List.mem_of_getElem? (i := 606) (by decide +kernel), List.mem_of_getElem? (i := 607) (by decide +kernel)⟩
theorem lw_p8 : lw_okq (⟨"RiverWage$Tokens", "takeWord", "()V"⟩, 6) := ⟨⟨by decide +kernel, by decide +kernel⟩, List.mem_of_getElem? (i := 122) (by decide +kernel), List.mem_of_getElem? (i := 632) (by decide +kernel), List.mem_of_getElem? (i := 633) (by decide +kernel)⟩
theorem lw_p9 : lw_okq (⟨"RiverWage$Tokens", "takeNumber", "()V"⟩, 6) := ⟨⟨by decide +kernel, by decide +kernel⟩, List.mem_of_getElem? (i := 122) (by decide +kernel), List.mem_of_getElem? (i := 639) (by decide +kernel), List.mem_of_getElem? (i := 640) (by decide +kernel)⟩
theorem lw_p10 : lw_okq (⟨"RiverWage$Reader", "readToken", "(LRiverWage$Tokens;LRiverWage$Script;)I"⟩, 9) := ⟨⟨by decide +kernel, by decide +kernel⟩, List.mem_of_getElem? (i := 148) (by decide +kernel), List.mem_of_getElem? (i := 726) (by decide +kernel), List.mem_of_getElem? (i := 727) (by decide +kernel)⟩
theorem lw_p11 : lw_okq (⟨"RiverWage$Reader", "readLineWord", "(LRiverWage$Tokens;LRiverWage$Script;)I"⟩, 9) := ⟨⟨by decide +kernel, by decide +kernel⟩, List.mem_of_getElem? (i := 148) (by decide +kernel), List.mem_of_getElem? (i := 730) (by decide +kernel), List.mem_of_getElem? (i := 731) (by decide +kernel)⟩
theorem lw_p12 : lw_okq (⟨"RiverWage$Reader", "readOperand", "(LRiverWage$Tokens;LRiverWage$Script;)I"⟩, 9) := ⟨⟨by decide +kernel, by decide +kernel⟩, List.mem_of_getElem? (i := 148) (by decide +kernel), List.mem_of_getElem? (i := 772) (by decide +kernel), List.mem_of_getElem? (i := 773) (by decide +kernel)⟩
theorem lw_p13 : lw_okq (⟨"RiverWage$Reader", "push", "(I)V"⟩, 9) := ⟨⟨by decide +kernel, by decide +kernel⟩, List.mem_of_getElem? (i := 148) (by decide +kernel), List.mem_of_getElem? (i := 781) (by decide +kernel), List.mem_of_getElem? (i := 782) (by decide +kernel)⟩
theorem lw_p14 : lw_okq (⟨"RiverWage$Reader", "endPart", "(LRiverWage$Script;)V"⟩, 9) := ⟨⟨by decide +kernel, by decide +kernel⟩, List.mem_of_getElem? (i := 148) (by decide +kernel), List.mem_of_getElem? (i := 793) (by decide +kernel), List.mem_of_getElem? (i := 794) (by decide +kernel)⟩
theorem lw_p15 : lw_okq (⟨"RiverWage$Reader", "readOperator", "(LRiverWage$Tokens;LRiverWage$Script;)I"⟩, 9) := ⟨⟨by decide +kernel, by decide +kernel⟩, List.mem_of_getElem? (i := 148) (by decide +kernel), List.mem_of_getElem? (i := 797) (by decide +kernel), List.mem_of_getElem? (i := 798) (by decide +kernel)⟩
def lw_privs_1 : List (MethodName × Nat) := [(⟨"RiverWage", "isToldKitchen", "(I)Z"⟩, 20), (⟨"RiverWage", "fillByBounds", "(IIZ)V"⟩, 20), (⟨"RiverWage", "boundHands", "(IIZ)I"⟩, 20), (⟨"RiverWage", "silentAmong", "(III)I"⟩, 20), (⟨"RiverWage", "fillByCalls", "(II)V"⟩, 20), (⟨"RiverWage$Sides", "gatherBoth", "()V"⟩, 5), (⟨"RiverWage$Sides", "sumOfRow", "(I)I"⟩, 5), (⟨"RiverWage", "readInto", "(LRiverWage$Reader;LRiverWage$Script;)I"⟩, 20), (⟨"RiverWage$Tokens", "takeWord", "()V"⟩, 6), (⟨"RiverWage$Tokens", "takeNumber", "()V"⟩, 6), (⟨"RiverWage$Reader", "readToken", "(LRiverWage$Tokens;LRiverWage$Script;)I"⟩, 9), (⟨"RiverWage$Reader", "readLineWord", "(LRiverWage$Tokens;LRiverWage$Script;)I"⟩, 9), (⟨"RiverWage$Reader", "readOperand", "(LRiverWage$Tokens;LRiverWage$Script;)I"⟩, 9), (⟨"RiverWage$Reader", "push", "(I)V"⟩, 9), (⟨"RiverWage$Reader", "endPart", "(LRiverWage$Script;)V"⟩, 9), (⟨"RiverWage$Reader", "readOperator", "(LRiverWage$Tokens;LRiverWage$Script;)I"⟩, 9)]
theorem lw_r1 : ∀ q ∈ lw_privs_1, lw_okq q := List.forall_mem_cons.mpr ⟨lw_p0, List.forall_mem_cons.mpr ⟨lw_p1, List.forall_mem_cons.mpr ⟨lw_p2, List.forall_mem_cons.mpr ⟨lw_p3, List.forall_mem_cons.mpr ⟨lw_p4, List.forall_mem_cons.mpr ⟨lw_p5, List.forall_mem_cons.mpr ⟨lw_p6, List.forall_mem_cons.mpr ⟨lw_p7, List.forall_mem_cons.mpr ⟨lw_p8, List.forall_mem_cons.mpr ⟨lw_p9, List.forall_mem_cons.mpr ⟨lw_p10, List.forall_mem_cons.mpr ⟨lw_p11, List.forall_mem_cons.mpr ⟨lw_p12, List.forall_mem_cons.mpr ⟨lw_p13, List.forall_mem_cons.mpr ⟨lw_p14, List.forall_mem_cons.mpr ⟨lw_p15, fun _ h => absurd h List.not_mem_nil⟩⟩⟩⟩⟩⟩⟩⟩⟩⟩⟩⟩⟩⟩⟩⟩
theorem lw_p16 : lw_okq (⟨"RiverWage$Reader", "readEnd", "(LRiverWage$Script;)I"⟩, 9) := ⟨⟨by decide +kernel, by decide +kernel⟩, List.mem_of_getElem? (i := 148) (by decide +kernel), List.mem_of_getElem? (i := 801) (by decide +kernel), List.mem_of_getElem? (i := 802) (by decide +kernel)⟩
theorem lw_p17 : lw_okq (⟨"RiverWage$Reader", "release", "(ILRiverWage$Script;)V"⟩, 9) := ⟨⟨by decide +kernel, by decide +kernel⟩, List.mem_of_getElem? (i := 148) (by decide +kernel), List.mem_of_getElem? (i := 805) (by decide +kernel), List.mem_of_getElem? (i := 806) (by decide +kernel)⟩
theorem lw_p18 : lw_okq (⟨"RiverWage$Reader", "topRank", "()I"⟩, 9) := ⟨⟨by decide +kernel, by decide +kernel⟩, List.mem_of_getElem? (i := 148) (by decide +kernel), List.mem_of_getElem? (i := 809) (by decide +kernel), List.mem_of_getElem? (i := 810) (by decide +kernel)⟩
theorem lw_p19 : lw_okq (⟨"RiverWage$Reader", "readClose", "(LRiverWage$Script;)I"⟩, 9) := ⟨⟨by decide +kernel, by decide +kernel⟩, List.mem_of_getElem? (i := 148) (by decide +kernel), List.mem_of_getElem? (i := 815) (by decide +kernel), List.mem_of_getElem? (i := 816) (by decide +kernel)⟩
theorem lw_p20 : lw_okq (⟨"RiverWage$Reader", "readNumeral", "(LRiverWage$Tokens;LRiverWage$Script;)I"⟩, 9) := ⟨⟨by decide +kernel, by decide +kernel⟩, List.mem_of_getElem? (i := 148) (by decide +kernel), List.mem_of_getElem? (i := 823) (by decide +kernel), List.mem_of_getElem? (i := 824) (by decide +kernel)⟩
theorem lw_p21 : lw_okq (⟨"RiverWage$World", "live", "(LRiverWage$Script;II)V"⟩, 6) := ⟨⟨by decide +kernel, by decide +kernel⟩, List.mem_of_getElem? (i := 220) (by decide +kernel), List.mem_of_getElem? (i := 869) (by decide +kernel), List.mem_of_getElem? (i := 870) (by decide +kernel)⟩
theorem lw_p22 : lw_okq (⟨"RiverWage$World", "fillFacts", "(IIZ)V"⟩, 6) := ⟨⟨by decide +kernel, by decide +kernel⟩, List.mem_of_getElem? (i := 220) (by decide +kernel), List.mem_of_getElem? (i := 880) (by decide +kernel), List.mem_of_getElem? (i := 881) (by decide +kernel)⟩
theorem lw_p23 : lw_okq (⟨"RiverWage$Script", "operate", "(II)I"⟩, 7) := ⟨⟨by decide +kernel, by decide +kernel⟩, List.mem_of_getElem? (i := 191) (by decide +kernel), List.mem_of_getElem? (i := 910) (by decide +kernel), List.mem_of_getElem? (i := 911) (by decide +kernel)⟩
theorem lw_p24 : lw_okq (⟨"RiverWage", "farFromTold", "(LRiverWage$Script;I)J"⟩, 20) := ⟨⟨by decide +kernel, by decide +kernel⟩, List.mem_of_getElem? (i := 29) (by decide +kernel), List.mem_of_getElem? (i := 933) (by decide +kernel), List.mem_of_getElem? (i := 934) (by decide +kernel)⟩
theorem lw_p25 : lw_okq (⟨"RiverWage", "farOfKitchen", "(I)J"⟩, 20) := ⟨⟨by decide +kernel, by decide +kernel⟩, List.mem_of_getElem? (i := 29) (by decide +kernel), List.mem_of_getElem? (i := 937) (by decide +kernel), List.mem_of_getElem? (i := 938) (by decide +kernel)⟩
theorem lw_p26 : lw_okq (⟨"RiverWage", "fillByWorld", "(II)V"⟩, 20) := ⟨⟨by decide +kernel, by decide +kernel⟩, List.mem_of_getElem? (i := 29) (by decide +kernel), List.mem_of_getElem? (i := 951) (by decide +kernel), List.mem_of_getElem? (i := 952) (by decide +kernel)⟩
theorem lw_p27 : lw_okq (⟨"RiverWage", "tenthsOf", "(LRiverWage$Script;)I"⟩, 20) := ⟨⟨by decide +kernel, by decide +kernel⟩, List.mem_of_getElem? (i := 29) (by decide +kernel), List.mem_of_getElem? (i := 988) (by decide +kernel), List.mem_of_getElem? (i := 989) (by decide +kernel)⟩
theorem lw_p28 : lw_okq (⟨"RiverWage", "isTaken", "(LRiverWage$Script;II)Z"⟩, 20) := ⟨⟨by decide +kernel, by decide +kernel⟩, List.mem_of_getElem? (i := 29) (by decide +kernel), List.mem_of_getElem? (i := 996) (by decide +kernel), List.mem_of_getElem? (i := 997) (by decide +kernel)⟩
theorem lw_p29 : lw_okq (⟨"RiverWage", "fromOf", "(LRiverWage$Script;)I"⟩, 20) := ⟨⟨by decide +kernel, by decide +kernel⟩, List.mem_of_getElem? (i := 29) (by decide +kernel), List.mem_of_getElem? (i := 1001) (by decide +kernel), List.mem_of_getElem? (i := 1002) (by decide +kernel)⟩
theorem lw_p30 : lw_okq (⟨"RiverWage", "toOf", "(LRiverWage$Script;)I"⟩, 20) := ⟨⟨by decide +kernel, by decide +kernel⟩, List.mem_of_getElem? (i := 29) (by decide +kernel), List.mem_of_getElem? (i := 1019) (by decide +kernel), List.mem_of_getElem? (i := 1020) (by decide +kernel)⟩
theorem lw_p31 : lw_okq (⟨"RiverWage", "isBelowFloor", "(II)Z"⟩, 20) := ⟨⟨by decide +kernel, by decide +kernel⟩, List.mem_of_getElem? (i := 29) (by decide +kernel), List.mem_of_getElem? (i := 1023) (by decide +kernel), List.mem_of_getElem? (i := 1024) (by decide +kernel)⟩
def lw_privs_2 : List (MethodName × Nat) := [(⟨"RiverWage$Reader", "readEnd", "(LRiverWage$Script;)I"⟩, 9), (⟨"RiverWage$Reader", "release", "(ILRiverWage$Script;)V"⟩, 9), (⟨"RiverWage$Reader", "topRank", "()I"⟩, 9), (⟨"RiverWage$Reader", "readClose", "(LRiverWage$Script;)I"⟩, 9), (⟨"RiverWage$Reader", "readNumeral", "(LRiverWage$Tokens;LRiverWage$Script;)I"⟩, 9), (⟨"RiverWage$World", "live", "(LRiverWage$Script;II)V"⟩, 6), (⟨"RiverWage$World", "fillFacts", "(IIZ)V"⟩, 6), (⟨"RiverWage$Script", "operate", "(II)I"⟩, 7), (⟨"RiverWage", "farFromTold", "(LRiverWage$Script;I)J"⟩, 20), (⟨"RiverWage", "farOfKitchen", "(I)J"⟩, 20), (⟨"RiverWage", "fillByWorld", "(II)V"⟩, 20), (⟨"RiverWage", "tenthsOf", "(LRiverWage$Script;)I"⟩, 20), (⟨"RiverWage", "isTaken", "(LRiverWage$Script;II)Z"⟩, 20), (⟨"RiverWage", "fromOf", "(LRiverWage$Script;)I"⟩, 20), (⟨"RiverWage", "toOf", "(LRiverWage$Script;)I"⟩, 20), (⟨"RiverWage", "isBelowFloor", "(II)Z"⟩, 20)]
theorem lw_r2 : ∀ q ∈ lw_privs_2, lw_okq q := List.forall_mem_cons.mpr ⟨lw_p16, List.forall_mem_cons.mpr ⟨lw_p17, List.forall_mem_cons.mpr ⟨lw_p18, List.forall_mem_cons.mpr ⟨lw_p19, List.forall_mem_cons.mpr ⟨lw_p20, List.forall_mem_cons.mpr ⟨lw_p21, List.forall_mem_cons.mpr ⟨lw_p22, List.forall_mem_cons.mpr ⟨lw_p23, List.forall_mem_cons.mpr ⟨lw_p24, List.forall_mem_cons.mpr ⟨lw_p25, List.forall_mem_cons.mpr ⟨lw_p26, List.forall_mem_cons.mpr ⟨lw_p27, List.forall_mem_cons.mpr ⟨lw_p28, List.forall_mem_cons.mpr ⟨lw_p29, List.forall_mem_cons.mpr ⟨lw_p30, List.forall_mem_cons.mpr ⟨lw_p31, fun _ h => absurd h List.not_mem_nil⟩⟩⟩⟩⟩⟩⟩⟩⟩⟩⟩⟩⟩⟩⟩⟩
theorem lw_p32 : lw_okq (⟨"RiverWage", "mostDrawn", "(II)I"⟩, 20) := ⟨⟨by decide +kernel, by decide +kernel⟩, List.mem_of_getElem? (i := 29) (by decide +kernel), List.mem_of_getElem? (i := 1038) (by decide +kernel), List.mem_of_getElem? (i := 1039) (by decide +kernel)⟩
theorem lw_p33 : lw_okq (⟨"RiverWage$Sides", "sumsOfDraws", "(II[I)I"⟩, 5) := ⟨⟨by decide +kernel, by decide +kernel⟩, List.mem_of_getElem? (i := 87) (by decide +kernel), List.mem_of_getElem? (i := 1048) (by decide +kernel), List.mem_of_getElem? (i := 1049) (by decide +kernel)⟩
theorem lw_p34 : lw_okq (⟨"RiverWage$Sides", "gather", "(I)I"⟩, 5) := ⟨⟨by decide +kernel, by decide +kernel⟩, List.mem_of_getElem? (i := 87) (by decide +kernel), List.mem_of_getElem? (i := 1052) (by decide +kernel), List.mem_of_getElem? (i := 1053) (by decide +kernel)⟩
theorem lw_p35 : lw_okq (⟨"RiverWage", "weightOf", "(I)I"⟩, 20) := ⟨⟨by decide +kernel, by decide +kernel⟩, List.mem_of_getElem? (i := 29) (by decide +kernel), List.mem_of_getElem? (i := 1076) (by decide +kernel), List.mem_of_getElem? (i := 1077) (by decide +kernel)⟩
theorem lw_p36 : lw_okq (⟨"java/lang/Throwable", "fillInStackTrace", "(I)Ljava/lang/Throwable;"⟩, 6) := ⟨⟨by decide +kernel, by decide +kernel⟩, List.mem_of_getElem? (i := 1175) (by decide +kernel), List.mem_of_getElem? (i := 1173) (by decide +kernel), List.mem_of_getElem? (i := 1174) (by decide +kernel)⟩
theorem lw_p37 : lw_okq (⟨"RiverWage", "bankShare", "(IIII)I"⟩, 20) := ⟨⟨by decide +kernel, by decide +kernel⟩, List.mem_of_getElem? (i := 29) (by decide +kernel), List.mem_of_getElem? (i := 1201) (by decide +kernel), List.mem_of_getElem? (i := 1202) (by decide +kernel)⟩
theorem lw_p38 : lw_okq (⟨"RiverWage$Sides", "sortRow", "(I)V"⟩, 5) := ⟨⟨by decide +kernel, by decide +kernel⟩, List.mem_of_getElem? (i := 87) (by decide +kernel), List.mem_of_getElem? (i := 1263) (by decide +kernel), List.mem_of_getElem? (i := 1264) (by decide +kernel)⟩
theorem lw_p39 : lw_okq (⟨"RiverWage", "isWritten", "(LRiverWage$Script;I)Z"⟩, 20) := ⟨⟨by decide +kernel, by decide +kernel⟩, List.mem_of_getElem? (i := 29) (by decide +kernel), List.mem_of_getElem? (i := 1295) (by decide +kernel), List.mem_of_getElem? (i := 1296) (by decide +kernel)⟩
theorem lw_p40 : lw_okq (⟨"RiverWage", "isFork", "(I)Z"⟩, 20) := ⟨⟨by decide +kernel, by decide +kernel⟩, List.mem_of_getElem? (i := 29) (by decide +kernel), List.mem_of_getElem? (i := 1306) (by decide +kernel), List.mem_of_getElem? (i := 1307) (by decide +kernel)⟩
theorem lw_p41 : lw_okq (⟨"RiverWage", "keepExtreme", "(ZZ)V"⟩, 20) := ⟨⟨by decide +kernel, by decide +kernel⟩, List.mem_of_getElem? (i := 29) (by decide +kernel), List.mem_of_getElem? (i := 1310) (by decide +kernel), List.mem_of_getElem? (i := 1311) (by decide +kernel)⟩
theorem lw_p42 : lw_okq (⟨"RiverWage", "rateOf", "(II)J"⟩, 20) := ⟨⟨by decide +kernel, by decide +kernel⟩, List.mem_of_getElem? (i := 29) (by decide +kernel), List.mem_of_getElem? (i := 1321) (by decide +kernel), List.mem_of_getElem? (i := 1322) (by decide +kernel)⟩
theorem lw_p43 : lw_okq (⟨"RiverWage", "paidOf", "(II)J"⟩, 20) := ⟨⟨by decide +kernel, by decide +kernel⟩, List.mem_of_getElem? (i := 29) (by decide +kernel), List.mem_of_getElem? (i := 1325) (by decide +kernel), List.mem_of_getElem? (i := 1326) (by decide +kernel)⟩
theorem lw_p44 : lw_okq (⟨"RiverWage", "hoursOf", "(II)J"⟩, 20) := ⟨⟨by decide +kernel, by decide +kernel⟩, List.mem_of_getElem? (i := 29) (by decide +kernel), List.mem_of_getElem? (i := 1329) (by decide +kernel), List.mem_of_getElem? (i := 1330) (by decide +kernel)⟩
theorem lw_p45 : lw_okq (⟨"RiverWage", "restOf", "(II)J"⟩, 20) := ⟨⟨by decide +kernel, by decide +kernel⟩, List.mem_of_getElem? (i := 29) (by decide +kernel), List.mem_of_getElem? (i := 1333) (by decide +kernel), List.mem_of_getElem? (i := 1334) (by decide +kernel)⟩
theorem lw_p46 : lw_okq (⟨"RiverWage", "tenTakings", "(II)J"⟩, 20) := ⟨⟨by decide +kernel, by decide +kernel⟩, List.mem_of_getElem? (i := 29) (by decide +kernel), List.mem_of_getElem? (i := 1337) (by decide +kernel), List.mem_of_getElem? (i := 1338) (by decide +kernel)⟩
theorem lw_p47 : lw_okq (⟨"RiverWage", "closing", "(IIII)J"⟩, 20) := ⟨⟨by decide +kernel, by decide +kernel⟩, List.mem_of_getElem? (i := 29) (by decide +kernel), List.mem_of_getElem? (i := 1349) (by decide +kernel), List.mem_of_getElem? (i := 1350) (by decide +kernel)⟩
def lw_privs_3 : List (MethodName × Nat) := [(⟨"RiverWage", "mostDrawn", "(II)I"⟩, 20), (⟨"RiverWage$Sides", "sumsOfDraws", "(II[I)I"⟩, 5), (⟨"RiverWage$Sides", "gather", "(I)I"⟩, 5), (⟨"RiverWage", "weightOf", "(I)I"⟩, 20), (⟨"java/lang/Throwable", "fillInStackTrace", "(I)Ljava/lang/Throwable;"⟩, 6), (⟨"RiverWage", "bankShare", "(IIII)I"⟩, 20), (⟨"RiverWage$Sides", "sortRow", "(I)V"⟩, 5), (⟨"RiverWage", "isWritten", "(LRiverWage$Script;I)Z"⟩, 20), (⟨"RiverWage", "isFork", "(I)Z"⟩, 20), (⟨"RiverWage", "keepExtreme", "(ZZ)V"⟩, 20), (⟨"RiverWage", "rateOf", "(II)J"⟩, 20), (⟨"RiverWage", "paidOf", "(II)J"⟩, 20), (⟨"RiverWage", "hoursOf", "(II)J"⟩, 20), (⟨"RiverWage", "restOf", "(II)J"⟩, 20), (⟨"RiverWage", "tenTakings", "(II)J"⟩, 20), (⟨"RiverWage", "closing", "(IIII)J"⟩, 20)]
theorem lw_r3 : ∀ q ∈ lw_privs_3, lw_okq q := List.forall_mem_cons.mpr ⟨lw_p32, List.forall_mem_cons.mpr ⟨lw_p33, List.forall_mem_cons.mpr ⟨lw_p34, List.forall_mem_cons.mpr ⟨lw_p35, List.forall_mem_cons.mpr ⟨lw_p36, List.forall_mem_cons.mpr ⟨lw_p37, List.forall_mem_cons.mpr ⟨lw_p38, List.forall_mem_cons.mpr ⟨lw_p39, List.forall_mem_cons.mpr ⟨lw_p40, List.forall_mem_cons.mpr ⟨lw_p41, List.forall_mem_cons.mpr ⟨lw_p42, List.forall_mem_cons.mpr ⟨lw_p43, List.forall_mem_cons.mpr ⟨lw_p44, List.forall_mem_cons.mpr ⟨lw_p45, List.forall_mem_cons.mpr ⟨lw_p46, List.forall_mem_cons.mpr ⟨lw_p47, fun _ h => absurd h List.not_mem_nil⟩⟩⟩⟩⟩⟩⟩⟩⟩⟩⟩⟩⟩⟩⟩⟩
theorem lw_p48 : lw_okq (⟨"RiverWage", "mixedChange", "(IIIZ)I"⟩, 20) := ⟨⟨by decide +kernel, by decide +kernel⟩, List.mem_of_getElem? (i := 29) (by decide +kernel), List.mem_of_getElem? (i := 1360) (by decide +kernel), List.mem_of_getElem? (i := 1361) (by decide +kernel)⟩
theorem lw_p49 : lw_okq (⟨"RiverWageModel", "lay", "(J)V"⟩, 58) := ⟨⟨by decide +kernel, by decide +kernel⟩, List.mem_of_getElem? (i := 1374) (by decide +kernel), List.mem_of_getElem? (i := 1372) (by decide +kernel), List.mem_of_getElem? (i := 1373) (by decide +kernel)⟩
theorem lw_p50 : lw_okq (⟨"RiverWageModel", "isKitchen", "(I)Z"⟩, 58) := ⟨⟨by decide +kernel, by decide +kernel⟩, List.mem_of_getElem? (i := 1374) (by decide +kernel), List.mem_of_getElem? (i := 1597) (by decide +kernel), List.mem_of_getElem? (i := 1598) (by decide +kernel)⟩
theorem lw_p51 : lw_okq (⟨"RiverWageModel", "handsOf", "(II)I"⟩, 58) := ⟨⟨by decide +kernel, by decide +kernel⟩, List.mem_of_getElem? (i := 1374) (by decide +kernel), List.mem_of_getElem? (i := 1620) (by decide +kernel), List.mem_of_getElem? (i := 1621) (by decide +kernel)⟩
theorem lw_p52 : lw_okq (⟨"RiverWageModel", "handsBy", "(II)I"⟩, 58) := ⟨⟨by decide +kernel, by decide +kernel⟩, List.mem_of_getElem? (i := 1374) (by decide +kernel), List.mem_of_getElem? (i := 1624) (by decide +kernel), List.mem_of_getElem? (i := 1625) (by decide +kernel)⟩
theorem lw_p53 : lw_okq (⟨"RiverWageModel", "isCounted", "(III)Z"⟩, 58) := ⟨⟨by decide +kernel, by decide +kernel⟩, List.mem_of_getElem? (i := 1374) (by decide +kernel), List.mem_of_getElem? (i := 1635) (by decide +kernel), List.mem_of_getElem? (i := 1636) (by decide +kernel)⟩
theorem lw_p54 : lw_okq (⟨"RiverWageModel", "changeOf", "(III)I"⟩, 58) := ⟨⟨by decide +kernel, by decide +kernel⟩, List.mem_of_getElem? (i := 1374) (by decide +kernel), List.mem_of_getElem? (i := 1639) (by decide +kernel), List.mem_of_getElem? (i := 1640) (by decide +kernel)⟩
theorem lw_p55 : lw_okq (⟨"RiverWageModel", "findRiver", "(III)Z"⟩, 58) := ⟨⟨by decide +kernel, by decide +kernel⟩, List.mem_of_getElem? (i := 1374) (by decide +kernel), List.mem_of_getElem? (i := 1650) (by decide +kernel), List.mem_of_getElem? (i := 1651) (by decide +kernel)⟩
theorem lw_p56 : lw_okq (⟨"RiverWageModel", "beginsSums", "()V"⟩, 58) := ⟨⟨by decide +kernel, by decide +kernel⟩, List.mem_of_getElem? (i := 1374) (by decide +kernel), List.mem_of_getElem? (i := 1654) (by decide +kernel), List.mem_of_getElem? (i := 1655) (by decide +kernel)⟩
theorem lw_p57 : lw_okq (⟨"RiverWageModel", "adds", "(ZJ)V"⟩, 58) := ⟨⟨by decide +kernel, by decide +kernel⟩, List.mem_of_getElem? (i := 1374) (by decide +kernel), List.mem_of_getElem? (i := 1658) (by decide +kernel), List.mem_of_getElem? (i := 1659) (by decide +kernel)⟩
theorem lw_p58 : lw_okq (⟨"RiverWageModel", "differs", "()Z"⟩, 58) := ⟨⟨by decide +kernel, by decide +kernel⟩, List.mem_of_getElem? (i := 1374) (by decide +kernel), List.mem_of_getElem? (i := 1662) (by decide +kernel), List.mem_of_getElem? (i := 1663) (by decide +kernel)⟩
theorem lw_p59 : lw_okq (⟨"RiverWageModel", "lowest", "(I)J"⟩, 58) := ⟨⟨by decide +kernel, by decide +kernel⟩, List.mem_of_getElem? (i := 1374) (by decide +kernel), List.mem_of_getElem? (i := 1666) (by decide +kernel), List.mem_of_getElem? (i := 1667) (by decide +kernel)⟩
theorem lw_p60 : lw_okq (⟨"RiverWageModel", "findBound", "(III)Z"⟩, 58) := ⟨⟨by decide +kernel, by decide +kernel⟩, List.mem_of_getElem? (i := 1374) (by decide +kernel), List.mem_of_getElem? (i := 1681) (by decide +kernel), List.mem_of_getElem? (i := 1682) (by decide +kernel)⟩
theorem lw_p61 : lw_okq (⟨"RiverWageModel", "mayChange", "(IIII)I"⟩, 58) := ⟨⟨by decide +kernel, by decide +kernel⟩, List.mem_of_getElem? (i := 1374) (by decide +kernel), List.mem_of_getElem? (i := 1685) (by decide +kernel), List.mem_of_getElem? (i := 1686) (by decide +kernel)⟩
theorem lw_p62 : lw_okq (⟨"RiverWageModel", "sumOf", "(IIIII)J"⟩, 58) := ⟨⟨by decide +kernel, by decide +kernel⟩, List.mem_of_getElem? (i := 1374) (by decide +kernel), List.mem_of_getElem? (i := 1705) (by decide +kernel), List.mem_of_getElem? (i := 1706) (by decide +kernel)⟩
theorem lw_p63 : lw_okq (⟨"RiverWageModel", "cutAll", "()V"⟩, 58) := ⟨⟨by decide +kernel, by decide +kernel⟩, List.mem_of_getElem? (i := 1374) (by decide +kernel), List.mem_of_getElem? (i := 1731) (by decide +kernel), List.mem_of_getElem? (i := 1732) (by decide +kernel)⟩
def lw_privs_4 : List (MethodName × Nat) := [(⟨"RiverWage", "mixedChange", "(IIIZ)I"⟩, 20), (⟨"RiverWageModel", "lay", "(J)V"⟩, 58), (⟨"RiverWageModel", "isKitchen", "(I)Z"⟩, 58), (⟨"RiverWageModel", "handsOf", "(II)I"⟩, 58), (⟨"RiverWageModel", "handsBy", "(II)I"⟩, 58), (⟨"RiverWageModel", "isCounted", "(III)Z"⟩, 58), (⟨"RiverWageModel", "changeOf", "(III)I"⟩, 58), (⟨"RiverWageModel", "findRiver", "(III)Z"⟩, 58), (⟨"RiverWageModel", "beginsSums", "()V"⟩, 58), (⟨"RiverWageModel", "adds", "(ZJ)V"⟩, 58), (⟨"RiverWageModel", "differs", "()Z"⟩, 58), (⟨"RiverWageModel", "lowest", "(I)J"⟩, 58), (⟨"RiverWageModel", "findBound", "(III)Z"⟩, 58), (⟨"RiverWageModel", "mayChange", "(IIII)I"⟩, 58), (⟨"RiverWageModel", "sumOf", "(IIIII)J"⟩, 58), (⟨"RiverWageModel", "cutAll", "()V"⟩, 58)]
theorem lw_r4 : ∀ q ∈ lw_privs_4, lw_okq q := List.forall_mem_cons.mpr ⟨lw_p48, List.forall_mem_cons.mpr ⟨lw_p49, List.forall_mem_cons.mpr ⟨lw_p50, List.forall_mem_cons.mpr ⟨lw_p51, List.forall_mem_cons.mpr ⟨lw_p52, List.forall_mem_cons.mpr ⟨lw_p53, List.forall_mem_cons.mpr ⟨lw_p54, List.forall_mem_cons.mpr ⟨lw_p55, List.forall_mem_cons.mpr ⟨lw_p56, List.forall_mem_cons.mpr ⟨lw_p57, List.forall_mem_cons.mpr ⟨lw_p58, List.forall_mem_cons.mpr ⟨lw_p59, List.forall_mem_cons.mpr ⟨lw_p60, List.forall_mem_cons.mpr ⟨lw_p61, List.forall_mem_cons.mpr ⟨lw_p62, List.forall_mem_cons.mpr ⟨lw_p63, fun _ h => absurd h List.not_mem_nil⟩⟩⟩⟩⟩⟩⟩⟩⟩⟩⟩⟩⟩⟩⟩⟩
theorem lw_p64 : lw_okq (⟨"RiverWageModel", "readLine", "()V"⟩, 58) := ⟨⟨by decide +kernel, by decide +kernel⟩, List.mem_of_getElem? (i := 1374) (by decide +kernel), List.mem_of_getElem? (i := 1750) (by decide +kernel), List.mem_of_getElem? (i := 1751) (by decide +kernel)⟩
theorem lw_p65 : lw_okq (⟨"RiverWageModel", "isWord", "(I)Z"⟩, 58) := ⟨⟨by decide +kernel, by decide +kernel⟩, List.mem_of_getElem? (i := 1374) (by decide +kernel), List.mem_of_getElem? (i := 1754) (by decide +kernel), List.mem_of_getElem? (i := 1755) (by decide +kernel)⟩
theorem lw_p66 : lw_okq (⟨"RiverWageModel", "wrong", "(I)V"⟩, 58) := ⟨⟨by decide +kernel, by decide +kernel⟩, List.mem_of_getElem? (i := 1374) (by decide +kernel), List.mem_of_getElem? (i := 1758) (by decide +kernel), List.mem_of_getElem? (i := 1759) (by decide +kernel)⟩
theorem lw_p67 : lw_okq (⟨"RiverWageModel", "takeWord", "(I)V"⟩, 58) := ⟨⟨by decide +kernel, by decide +kernel⟩, List.mem_of_getElem? (i := 1374) (by decide +kernel), List.mem_of_getElem? (i := 1762) (by decide +kernel), List.mem_of_getElem? (i := 1763) (by decide +kernel)⟩
theorem lw_p68 : lw_okq (⟨"RiverWageModel", "hasWord", "(I)Z"⟩, 58) := ⟨⟨by decide +kernel, by decide +kernel⟩, List.mem_of_getElem? (i := 1374) (by decide +kernel), List.mem_of_getElem? (i := 1766) (by decide +kernel), List.mem_of_getElem? (i := 1767) (by decide +kernel)⟩
theorem lw_p69 : lw_okq (⟨"RiverWageModel", "all", "(I)V"⟩, 58) := ⟨⟨by decide +kernel, by decide +kernel⟩, List.mem_of_getElem? (i := 1374) (by decide +kernel), List.mem_of_getElem? (i := 1770) (by decide +kernel), List.mem_of_getElem? (i := 1771) (by decide +kernel)⟩
theorem lw_p70 : lw_okq (⟨"RiverWageModel", "test", "(I)V"⟩, 58) := ⟨⟨by decide +kernel, by decide +kernel⟩, List.mem_of_getElem? (i := 1374) (by decide +kernel), List.mem_of_getElem? (i := 1774) (by decide +kernel), List.mem_of_getElem? (i := 1775) (by decide +kernel)⟩
theorem lw_p71 : lw_okq (⟨"RiverWageModel", "sums", "(I)V"⟩, 58) := ⟨⟨by decide +kernel, by decide +kernel⟩, List.mem_of_getElem? (i := 1374) (by decide +kernel), List.mem_of_getElem? (i := 1778) (by decide +kernel), List.mem_of_getElem? (i := 1779) (by decide +kernel)⟩
theorem lw_p72 : lw_okq (⟨"RiverWageModel", "products", "(I)V"⟩, 58) := ⟨⟨by decide +kernel, by decide +kernel⟩, List.mem_of_getElem? (i := 1374) (by decide +kernel), List.mem_of_getElem? (i := 1782) (by decide +kernel), List.mem_of_getElem? (i := 1783) (by decide +kernel)⟩
theorem lw_p73 : lw_okq (⟨"RiverWageModel", "takePart", "(I)V"⟩, 58) := ⟨⟨by decide +kernel, by decide +kernel⟩, List.mem_of_getElem? (i := 1374) (by decide +kernel), List.mem_of_getElem? (i := 1786) (by decide +kernel), List.mem_of_getElem? (i := 1787) (by decide +kernel)⟩
theorem lw_p74 : lw_okq (⟨"RiverWageModel", "factHere", "()I"⟩, 58) := ⟨⟨by decide +kernel, by decide +kernel⟩, List.mem_of_getElem? (i := 1374) (by decide +kernel), List.mem_of_getElem? (i := 1790) (by decide +kernel), List.mem_of_getElem? (i := 1791) (by decide +kernel)⟩
theorem lw_p75 : lw_okq (⟨"RiverWageModel", "isSign", "(I)Z"⟩, 58) := ⟨⟨by decide +kernel, by decide +kernel⟩, List.mem_of_getElem? (i := 1374) (by decide +kernel), List.mem_of_getElem? (i := 1794) (by decide +kernel), List.mem_of_getElem? (i := 1795) (by decide +kernel)⟩
theorem lw_p76 : lw_okq (⟨"RiverWageModel", "emit", "(II)V"⟩, 58) := ⟨⟨by decide +kernel, by decide +kernel⟩, List.mem_of_getElem? (i := 1374) (by decide +kernel), List.mem_of_getElem? (i := 1798) (by decide +kernel), List.mem_of_getElem? (i := 1799) (by decide +kernel)⟩
theorem lw_p77 : lw_okq (⟨"RiverWageModel", "hasSign", "(I)Z"⟩, 58) := ⟨⟨by decide +kernel, by decide +kernel⟩, List.mem_of_getElem? (i := 1374) (by decide +kernel), List.mem_of_getElem? (i := 1802) (by decide +kernel), List.mem_of_getElem? (i := 1803) (by decide +kernel)⟩
theorem lw_p78 : lw_okq (⟨"RiverWageModel", "takeSign", "(I)V"⟩, 58) := ⟨⟨by decide +kernel, by decide +kernel⟩, List.mem_of_getElem? (i := 1374) (by decide +kernel), List.mem_of_getElem? (i := 1806) (by decide +kernel), List.mem_of_getElem? (i := 1807) (by decide +kernel)⟩
theorem lw_p79 : lw_okq (⟨"RiverWageModel", "keepsCodes", "(I)V"⟩, 58) := ⟨⟨by decide +kernel, by decide +kernel⟩, List.mem_of_getElem? (i := 1374) (by decide +kernel), List.mem_of_getElem? (i := 1810) (by decide +kernel), List.mem_of_getElem? (i := 1811) (by decide +kernel)⟩
def lw_privs_5 : List (MethodName × Nat) := [(⟨"RiverWageModel", "readLine", "()V"⟩, 58), (⟨"RiverWageModel", "isWord", "(I)Z"⟩, 58), (⟨"RiverWageModel", "wrong", "(I)V"⟩, 58), (⟨"RiverWageModel", "takeWord", "(I)V"⟩, 58), (⟨"RiverWageModel", "hasWord", "(I)Z"⟩, 58), (⟨"RiverWageModel", "all", "(I)V"⟩, 58), (⟨"RiverWageModel", "test", "(I)V"⟩, 58), (⟨"RiverWageModel", "sums", "(I)V"⟩, 58), (⟨"RiverWageModel", "products", "(I)V"⟩, 58), (⟨"RiverWageModel", "takePart", "(I)V"⟩, 58), (⟨"RiverWageModel", "factHere", "()I"⟩, 58), (⟨"RiverWageModel", "isSign", "(I)Z"⟩, 58), (⟨"RiverWageModel", "emit", "(II)V"⟩, 58), (⟨"RiverWageModel", "hasSign", "(I)Z"⟩, 58), (⟨"RiverWageModel", "takeSign", "(I)V"⟩, 58), (⟨"RiverWageModel", "keepsCodes", "(I)V"⟩, 58)]
theorem lw_r5 : ∀ q ∈ lw_privs_5, lw_okq q := List.forall_mem_cons.mpr ⟨lw_p64, List.forall_mem_cons.mpr ⟨lw_p65, List.forall_mem_cons.mpr ⟨lw_p66, List.forall_mem_cons.mpr ⟨lw_p67, List.forall_mem_cons.mpr ⟨lw_p68, List.forall_mem_cons.mpr ⟨lw_p69, List.forall_mem_cons.mpr ⟨lw_p70, List.forall_mem_cons.mpr ⟨lw_p71, List.forall_mem_cons.mpr ⟨lw_p72, List.forall_mem_cons.mpr ⟨lw_p73, List.forall_mem_cons.mpr ⟨lw_p74, List.forall_mem_cons.mpr ⟨lw_p75, List.forall_mem_cons.mpr ⟨lw_p76, List.forall_mem_cons.mpr ⟨lw_p77, List.forall_mem_cons.mpr ⟨lw_p78, List.forall_mem_cons.mpr ⟨lw_p79, fun _ h => absurd h List.not_mem_nil⟩⟩⟩⟩⟩⟩⟩⟩⟩⟩⟩⟩⟩⟩⟩⟩
theorem lw_p80 : lw_okq (⟨"RiverWageModel", "runs", "(II)V"⟩, 58) := ⟨⟨by decide +kernel, by decide +kernel⟩, List.mem_of_getElem? (i := 1374) (by decide +kernel), List.mem_of_getElem? (i := 1818) (by decide +kernel), List.mem_of_getElem? (i := 1819) (by decide +kernel)⟩
theorem lw_p81 : lw_okq (⟨"RiverWageModel", "goesOn", "(IIII)V"⟩, 58) := ⟨⟨by decide +kernel, by decide +kernel⟩, List.mem_of_getElem? (i := 1374) (by decide +kernel), List.mem_of_getElem? (i := 1826) (by decide +kernel), List.mem_of_getElem? (i := 1827) (by decide +kernel)⟩
theorem lw_p82 : lw_okq (⟨"RiverWageModel", "isSo", "(II)Z"⟩, 58) := ⟨⟨by decide +kernel, by decide +kernel⟩, List.mem_of_getElem? (i := 1374) (by decide +kernel), List.mem_of_getElem? (i := 1830) (by decide +kernel), List.mem_of_getElem? (i := 1831) (by decide +kernel)⟩
theorem lw_p83 : lw_okq (⟨"RiverWageModel", "worthOf", "(II)I"⟩, 58) := ⟨⟨by decide +kernel, by decide +kernel⟩, List.mem_of_getElem? (i := 1374) (by decide +kernel), List.mem_of_getElem? (i := 1834) (by decide +kernel), List.mem_of_getElem? (i := 1835) (by decide +kernel)⟩
theorem lw_p84 : lw_okq (⟨"RiverWageModel", "worthAt", "(I)I"⟩, 58) := ⟨⟨by decide +kernel, by decide +kernel⟩, List.mem_of_getElem? (i := 1374) (by decide +kernel), List.mem_of_getElem? (i := 1838) (by decide +kernel), List.mem_of_getElem? (i := 1839) (by decide +kernel)⟩
theorem lw_p85 : lw_okq (⟨"RiverWageModel", "handsByLine", "(III)I"⟩, 58) := ⟨⟨by decide +kernel, by decide +kernel⟩, List.mem_of_getElem? (i := 1374) (by decide +kernel), List.mem_of_getElem? (i := 1845) (by decide +kernel), List.mem_of_getElem? (i := 1846) (by decide +kernel)⟩
theorem lw_p86 : lw_okq (⟨"RiverWageModel", "worldHands", "(II)I"⟩, 58) := ⟨⟨by decide +kernel, by decide +kernel⟩, List.mem_of_getElem? (i := 1374) (by decide +kernel), List.mem_of_getElem? (i := 1849) (by decide +kernel), List.mem_of_getElem? (i := 1850) (by decide +kernel)⟩
theorem lw_p87 : lw_okq (⟨"RiverWageModel", "fitOf", "(II)J"⟩, 58) := ⟨⟨by decide +kernel, by decide +kernel⟩, List.mem_of_getElem? (i := 1374) (by decide +kernel), List.mem_of_getElem? (i := 1860) (by decide +kernel), List.mem_of_getElem? (i := 1861) (by decide +kernel)⟩
theorem lw_p88 : lw_okq (⟨"RiverWageModel", "findOthers", "(Z)Z"⟩, 58) := ⟨⟨by decide +kernel, by decide +kernel⟩, List.mem_of_getElem? (i := 1374) (by decide +kernel), List.mem_of_getElem? (i := 1880) (by decide +kernel), List.mem_of_getElem? (i := 1881) (by decide +kernel)⟩
theorem lw_p89 : lw_okq (⟨"RiverWageModel", "readWriterLine", "()V"⟩, 58) := ⟨⟨by decide +kernel, by decide +kernel⟩, List.mem_of_getElem? (i := 1374) (by decide +kernel), List.mem_of_getElem? (i := 1895) (by decide +kernel), List.mem_of_getElem? (i := 1896) (by decide +kernel)⟩
theorem lw_p90 : lw_okq (⟨"RiverWageModel", "tenthsBy", "(I)I"⟩, 58) := ⟨⟨by decide +kernel, by decide +kernel⟩, List.mem_of_getElem? (i := 1374) (by decide +kernel), List.mem_of_getElem? (i := 1904) (by decide +kernel), List.mem_of_getElem? (i := 1905) (by decide +kernel)⟩
theorem lw_p91 : lw_okq (⟨"RiverWageModel", "doesTake", "(III)Z"⟩, 58) := ⟨⟨by decide +kernel, by decide +kernel⟩, List.mem_of_getElem? (i := 1374) (by decide +kernel), List.mem_of_getElem? (i := 1908) (by decide +kernel), List.mem_of_getElem? (i := 1909) (by decide +kernel)⟩
theorem lw_p92 : lw_okq (⟨"RiverWageModel", "monthsOf", "(II)I"⟩, 58) := ⟨⟨by decide +kernel, by decide +kernel⟩, List.mem_of_getElem? (i := 1374) (by decide +kernel), List.mem_of_getElem? (i := 1912) (by decide +kernel), List.mem_of_getElem? (i := 1913) (by decide +kernel)⟩
theorem lw_p93 : lw_okq (⟨"RiverWageModel", "findWritten", "(II)Z"⟩, 58) := ⟨⟨by decide +kernel, by decide +kernel⟩, List.mem_of_getElem? (i := 1374) (by decide +kernel), List.mem_of_getElem? (i := 1920) (by decide +kernel), List.mem_of_getElem? (i := 1921) (by decide +kernel)⟩
theorem lw_p94 : lw_okq (⟨"RiverWageModel", "rateOf", "(II)J"⟩, 58) := ⟨⟨by decide +kernel, by decide +kernel⟩, List.mem_of_getElem? (i := 1374) (by decide +kernel), List.mem_of_getElem? (i := 1937) (by decide +kernel), List.mem_of_getElem? (i := 1938) (by decide +kernel)⟩
theorem lw_p95 : lw_okq (⟨"RiverWageModel", "paidOf", "(II)J"⟩, 58) := ⟨⟨by decide +kernel, by decide +kernel⟩, List.mem_of_getElem? (i := 1374) (by decide +kernel), List.mem_of_getElem? (i := 1941) (by decide +kernel), List.mem_of_getElem? (i := 1942) (by decide +kernel)⟩
def lw_privs_6 : List (MethodName × Nat) := [(⟨"RiverWageModel", "runs", "(II)V"⟩, 58), (⟨"RiverWageModel", "goesOn", "(IIII)V"⟩, 58), (⟨"RiverWageModel", "isSo", "(II)Z"⟩, 58), (⟨"RiverWageModel", "worthOf", "(II)I"⟩, 58), (⟨"RiverWageModel", "worthAt", "(I)I"⟩, 58), (⟨"RiverWageModel", "handsByLine", "(III)I"⟩, 58), (⟨"RiverWageModel", "worldHands", "(II)I"⟩, 58), (⟨"RiverWageModel", "fitOf", "(II)J"⟩, 58), (⟨"RiverWageModel", "findOthers", "(Z)Z"⟩, 58), (⟨"RiverWageModel", "readWriterLine", "()V"⟩, 58), (⟨"RiverWageModel", "tenthsBy", "(I)I"⟩, 58), (⟨"RiverWageModel", "doesTake", "(III)Z"⟩, 58), (⟨"RiverWageModel", "monthsOf", "(II)I"⟩, 58), (⟨"RiverWageModel", "findWritten", "(II)Z"⟩, 58), (⟨"RiverWageModel", "rateOf", "(II)J"⟩, 58), (⟨"RiverWageModel", "paidOf", "(II)J"⟩, 58)]
theorem lw_r6 : ∀ q ∈ lw_privs_6, lw_okq q := List.forall_mem_cons.mpr ⟨lw_p80, List.forall_mem_cons.mpr ⟨lw_p81, List.forall_mem_cons.mpr ⟨lw_p82, List.forall_mem_cons.mpr ⟨lw_p83, List.forall_mem_cons.mpr ⟨lw_p84, List.forall_mem_cons.mpr ⟨lw_p85, List.forall_mem_cons.mpr ⟨lw_p86, List.forall_mem_cons.mpr ⟨lw_p87, List.forall_mem_cons.mpr ⟨lw_p88, List.forall_mem_cons.mpr ⟨lw_p89, List.forall_mem_cons.mpr ⟨lw_p90, List.forall_mem_cons.mpr ⟨lw_p91, List.forall_mem_cons.mpr ⟨lw_p92, List.forall_mem_cons.mpr ⟨lw_p93, List.forall_mem_cons.mpr ⟨lw_p94, List.forall_mem_cons.mpr ⟨lw_p95, fun _ h => absurd h List.not_mem_nil⟩⟩⟩⟩⟩⟩⟩⟩⟩⟩⟩⟩⟩⟩⟩⟩
theorem lw_p96 : lw_okq (⟨"RiverWageModel", "restOf", "(II)J"⟩, 58) := ⟨⟨by decide +kernel, by decide +kernel⟩, List.mem_of_getElem? (i := 1374) (by decide +kernel), List.mem_of_getElem? (i := 1945) (by decide +kernel), List.mem_of_getElem? (i := 1946) (by decide +kernel)⟩
theorem lw_p97 : lw_okq (⟨"RiverWageModel", "closesBy", "(IIII)J"⟩, 58) := ⟨⟨by decide +kernel, by decide +kernel⟩, List.mem_of_getElem? (i := 1374) (by decide +kernel), List.mem_of_getElem? (i := 1953) (by decide +kernel), List.mem_of_getElem? (i := 1954) (by decide +kernel)⟩
theorem lw_p98 : lw_okq (⟨"RiverWageModel", "laysLots", "(II)Z"⟩, 58) := ⟨⟨by decide +kernel, by decide +kernel⟩, List.mem_of_getElem? (i := 1374) (by decide +kernel), List.mem_of_getElem? (i := 1961) (by decide +kernel), List.mem_of_getElem? (i := 1962) (by decide +kernel)⟩
theorem lw_p99 : lw_okq (⟨"RiverWageModel", "findLots", "(I)V"⟩, 58) := ⟨⟨by decide +kernel, by decide +kernel⟩, List.mem_of_getElem? (i := 1374) (by decide +kernel), List.mem_of_getElem? (i := 1966) (by decide +kernel), List.mem_of_getElem? (i := 1967) (by decide +kernel)⟩
theorem lw_p100 : lw_okq (⟨"RiverWageModel", "sheetHands", "(I)I"⟩, 58) := ⟨⟨by decide +kernel, by decide +kernel⟩, List.mem_of_getElem? (i := 1374) (by decide +kernel), List.mem_of_getElem? (i := 1988) (by decide +kernel), List.mem_of_getElem? (i := 1989) (by decide +kernel)⟩
theorem lw_p101 : lw_okq (⟨"RiverWageModel", "weightOf", "(I)I"⟩, 58) := ⟨⟨by decide +kernel, by decide +kernel⟩, List.mem_of_getElem? (i := 1374) (by decide +kernel), List.mem_of_getElem? (i := 2000) (by decide +kernel), List.mem_of_getElem? (i := 2001) (by decide +kernel)⟩
theorem lw_p102 : lw_okq (⟨"RiverWageModel", "keeps", "(I[IZ)V"⟩, 58) := ⟨⟨by decide +kernel, by decide +kernel⟩, List.mem_of_getElem? (i := 1374) (by decide +kernel), List.mem_of_getElem? (i := 2008) (by decide +kernel), List.mem_of_getElem? (i := 2009) (by decide +kernel)⟩
def lw_privs_7 : List (MethodName × Nat) := [(⟨"RiverWageModel", "restOf", "(II)J"⟩, 58), (⟨"RiverWageModel", "closesBy", "(IIII)J"⟩, 58), (⟨"RiverWageModel", "laysLots", "(II)Z"⟩, 58), (⟨"RiverWageModel", "findLots", "(I)V"⟩, 58), (⟨"RiverWageModel", "sheetHands", "(I)I"⟩, 58), (⟨"RiverWageModel", "weightOf", "(I)I"⟩, 58), (⟨"RiverWageModel", "keeps", "(I[IZ)V"⟩, 58)]
theorem lw_r7 : ∀ q ∈ lw_privs_7, lw_okq q := List.forall_mem_cons.mpr ⟨lw_p96, List.forall_mem_cons.mpr ⟨lw_p97, List.forall_mem_cons.mpr ⟨lw_p98, List.forall_mem_cons.mpr ⟨lw_p99, List.forall_mem_cons.mpr ⟨lw_p100, List.forall_mem_cons.mpr ⟨lw_p101, List.forall_mem_cons.mpr ⟨lw_p102, fun _ h => absurd h List.not_mem_nil⟩⟩⟩⟩⟩⟩⟩
def lw_privs : List (MethodName × Nat) := lw_privs_1 ++ (lw_privs_2 ++ (lw_privs_3 ++ (lw_privs_4 ++ (lw_privs_5 ++ (lw_privs_6 ++ (lw_privs_7))))))
def lw_tbl : List Cond := k2_sels lw_privs ++ tables_1
theorem lw_privs_ok : ∀ q ∈ lw_privs, lw_okq q := by
  show ∀ q ∈ lw_privs_1 ++ (lw_privs_2 ++ (lw_privs_3 ++ (lw_privs_4 ++ (lw_privs_5 ++ (lw_privs_6 ++ (lw_privs_7)))))), lw_okq q
  exact List.forall_mem_append.mpr ⟨lw_r1, List.forall_mem_append.mpr ⟨lw_r2, List.forall_mem_append.mpr ⟨lw_r3, List.forall_mem_append.mpr ⟨lw_r4, List.forall_mem_append.mpr ⟨lw_r5, List.forall_mem_append.mpr ⟨lw_r6, lw_r7⟩⟩⟩⟩⟩⟩
end
section
def RX0 : String := "RiverWage$Floors"
def TX0 : u_T := fun k => match k with
  | 0 => ("RiverWage$Floors", "floors", "[I", true)
  | _ => ("RiverWage$Floors", "trades", "[I", true)
def tyX0 : Nat → FieldType := fun k => match k with
  | 0 => .array .int
  | _ => .array .int
abbrev wsX00 : List Cond := u_ws RX0 TX0 2
theorem nmX0 : ∀ a, a < 2 → ∀ b, b < 2 → a ≠ b → (TX0 a).2.1 ≠ (TX0 b).2.1 := by decide +kernel
theorem tyX0_ok : ∀ k, k < 2 → parseFieldDescriptor (TX0 k).2.2.1 = some (tyX0 k) := by decide +kernel
def RX1 : String := "RiverWage$Fraction"
def TX1 : u_T := fun k => match k with
  | 0 => ("RiverWage$Fraction", "above", "J", false)
  | _ => ("RiverWage$Fraction", "below", "J", false)
def tyX1 : Nat → FieldType := fun k => match k with
  | 0 => .long
  | _ => .long
abbrev wsX10 : List Cond := u_ws RX1 TX1 2
theorem nmX1 : ∀ a, a < 2 → ∀ b, b < 2 → a ≠ b → (TX1 a).2.1 ≠ (TX1 b).2.1 := by decide +kernel
theorem tyX1_ok : ∀ k, k < 2 → parseFieldDescriptor (TX1 k).2.2.1 = some (tyX1 k) := by decide +kernel
def RX2 : String := "RiverWage$Ledger"
def TX2 : u_T := fun k => match k with
  | _ => ("RiverWage$Ledger", "cells", "[I", true)
def tyX2 : Nat → FieldType := fun k => match k with
  | _ => .array .int
abbrev wsX20 : List Cond := u_ws RX2 TX2 1
theorem nmX2 : ∀ a, a < 1 → ∀ b, b < 1 → a ≠ b → (TX2 a).2.1 ≠ (TX2 b).2.1 := by decide +kernel
theorem tyX2_ok : ∀ k, k < 1 → parseFieldDescriptor (TX2 k).2.2.1 = some (tyX2 k) := by decide +kernel
def RX3 : String := "RiverWage$Mark"
def TX3 : u_T := fun k => match k with
  | 0 => ("RiverWage$Mark", "calls", "LRiverWage$Ledger;", true)
  | 1 => ("RiverWage$Mark", "sheets", "LRiverWage$Ledger;", true)
  | 2 => ("RiverWage$Mark", "others", "I", false)
  | _ => ("RiverWage$Mark", "laid", "Z", false)
def tyX3 : Nat → FieldType := fun k => match k with
  | 0 => .object "RiverWage$Ledger"
  | 1 => .object "RiverWage$Ledger"
  | 2 => .int
  | _ => .boolean
abbrev wsX30 : List Cond := u_ws RX3 TX3 4
theorem nmX3 : ∀ a, a < 4 → ∀ b, b < 4 → a ≠ b → (TX3 a).2.1 ≠ (TX3 b).2.1 := by decide +kernel
theorem tyX3_ok : ∀ k, k < 4 → parseFieldDescriptor (TX3 k).2.2.1 = some (tyX3 k) := by decide +kernel
def RX4 : String := "RiverWage$OtherRivers"
def TX4 : u_T := fun k => match k with
  | 0 => ("RiverWage$OtherRivers", "sums", "[I", true)
  | 1 => ("RiverWage$OtherRivers", "sizes", "[I", true)
  | 2 => ("RiverWage$OtherRivers", "printed", "[Z", true)
  | _ => ("RiverWage$OtherRivers", "length", "I", false)
def tyX4 : Nat → FieldType := fun k => match k with
  | 0 => .array .int
  | 1 => .array .int
  | 2 => .array .boolean
  | _ => .int
abbrev wsX40 : List Cond := u_ws RX4 TX4 4
theorem nmX4 : ∀ a, a < 4 → ∀ b, b < 4 → a ≠ b → (TX4 a).2.1 ≠ (TX4 b).2.1 := by decide +kernel
theorem tyX4_ok : ∀ k, k < 4 → parseFieldDescriptor (TX4 k).2.2.1 = some (tyX4 k) := by decide +kernel
def RX5 : String := "RiverWage$Reader"
def TX5 : u_T := fun k => match k with
  | 0 => ("RiverWage$Reader", "lineWords", "Ljava/lang/String;", true)
  | 1 => ("RiverWage$Reader", "factWords", "Ljava/lang/String;", true)
  | 2 => ("RiverWage$Reader", "forms", "[I", true)
  | 3 => ("RiverWage$Reader", "waiting", "[I", true)
  | 4 => ("RiverWage$Reader", "waits", "I", false)
  | 5 => ("RiverWage$Reader", "depth", "I", false)
  | 6 => ("RiverWage$Reader", "opened", "I", false)
  | 7 => ("RiverWage$Reader", "expected", "I", false)
  | _ => ("RiverWage$Reader", "line", "I", false)
def tyX5 : Nat → FieldType := fun k => match k with
  | 0 => .object "java/lang/String"
  | 1 => .object "java/lang/String"
  | 2 => .array .int
  | 3 => .array .int
  | 4 => .int
  | 5 => .int
  | 6 => .int
  | 7 => .int
  | _ => .int
abbrev wsX50 : List Cond := u_ws RX5 TX5 9
theorem nmX5 : ∀ a, a < 9 → ∀ b, b < 9 → a ≠ b → (TX5 a).2.1 ≠ (TX5 b).2.1 := by decide +kernel
theorem tyX5_ok : ∀ k, k < 9 → parseFieldDescriptor (TX5 k).2.2.1 = some (tyX5 k) := by decide +kernel
def RX6 : String := "RiverWage$Roster"
def TX6 : u_T := fun k => match k with
  | 0 => ("RiverWage$Roster", "told", "[Z", true)
  | 1 => ("RiverWage$Roster", "chosen", "[Z", true)
  | 2 => ("RiverWage$Roster", "banks", "[I", true)
  | 3 => ("RiverWage$Roster", "wages", "[I", true)
  | _ => ("RiverWage$Roster", "mosts", "[I", true)
def tyX6 : Nat → FieldType := fun k => match k with
  | 0 => .array .boolean
  | 1 => .array .boolean
  | 2 => .array .int
  | 3 => .array .int
  | _ => .array .int
abbrev wsX60 : List Cond := u_ws RX6 TX6 5
theorem nmX6 : ∀ a, a < 5 → ∀ b, b < 5 → a ≠ b → (TX6 a).2.1 ≠ (TX6 b).2.1 := by decide +kernel
theorem tyX6_ok : ∀ k, k < 5 → parseFieldDescriptor (TX6 k).2.2.1 = some (tyX6 k) := by decide +kernel
def RX7 : String := "RiverWage$Script"
def TX7 : u_T := fun k => match k with
  | 0 => ("RiverWage$Script", "code", "[I", false)
  | 1 => ("RiverWage$Script", "length", "I", false)
  | 2 => ("RiverWage$Script", "isThere", "[Z", true)
  | 3 => ("RiverWage$Script", "starts", "[I", true)
  | 4 => ("RiverWage$Script", "ends", "[I", true)
  | 5 => ("RiverWage$Script", "numbers", "[I", true)
  | _ => ("RiverWage$Script", "values", "[I", true)
def tyX7 : Nat → FieldType := fun k => match k with
  | 0 => .array .int
  | 1 => .int
  | 2 => .array .boolean
  | 3 => .array .int
  | 4 => .array .int
  | 5 => .array .int
  | _ => .array .int
abbrev wsX70 : List Cond := u_ws RX7 TX7 7
theorem nmX7 : ∀ a, a < 7 → ∀ b, b < 7 → a ≠ b → (TX7 a).2.1 ≠ (TX7 b).2.1 := by decide +kernel
theorem tyX7_ok : ∀ k, k < 7 → parseFieldDescriptor (TX7 k).2.2.1 = some (tyX7 k) := by decide +kernel
def RX8 : String := "RiverWage$Sides"
def TX8 : u_T := fun k => match k with
  | 0 => ("RiverWage$Sides", "sideOf", "[I", true)
  | 1 => ("RiverWage$Sides", "changes", "[I", true)
  | 2 => ("RiverWage$Sides", "row", "[I", true)
  | 3 => ("RiverWage$Sides", "firstSums", "[I", true)
  | _ => ("RiverWage$Sides", "secondSums", "[I", true)
def tyX8 : Nat → FieldType := fun k => match k with
  | 0 => .array .int
  | 1 => .array .int
  | 2 => .array .int
  | 3 => .array .int
  | _ => .array .int
abbrev wsX80 : List Cond := u_ws RX8 TX8 5
theorem nmX8 : ∀ a, a < 5 → ∀ b, b < 5 → a ≠ b → (TX8 a).2.1 ≠ (TX8 b).2.1 := by decide +kernel
theorem tyX8_ok : ∀ k, k < 5 → parseFieldDescriptor (TX8 k).2.2.1 = some (tyX8 k) := by decide +kernel
def RX9 : String := "RiverWage$Tokens"
def TX9 : u_T := fun k => match k with
  | 0 => ("RiverWage$Tokens", "signs", "[C", true)
  | 1 => ("RiverWage$Tokens", "length", "I", false)
  | 2 => ("RiverWage$Tokens", "start", "I", false)
  | 3 => ("RiverWage$Tokens", "end", "I", false)
  | 4 => ("RiverWage$Tokens", "kind", "I", false)
  | _ => ("RiverWage$Tokens", "value", "I", false)
def tyX9 : Nat → FieldType := fun k => match k with
  | 0 => .array .char
  | 1 => .int
  | 2 => .int
  | 3 => .int
  | 4 => .int
  | _ => .int
abbrev wsX90 : List Cond := u_ws RX9 TX9 6
theorem nmX9 : ∀ a, a < 6 → ∀ b, b < 6 → a ≠ b → (TX9 a).2.1 ≠ (TX9 b).2.1 := by decide +kernel
theorem tyX9_ok : ∀ k, k < 6 → parseFieldDescriptor (TX9 k).2.2.1 = some (tyX9 k) := by decide +kernel
def RX10 : String := "RiverWage$World"
def TX10 : u_T := fun k => match k with
  | 0 => ("RiverWage$World", "roster", "LRiverWage$Roster;", true)
  | 1 => ("RiverWage$World", "calls", "LRiverWage$Ledger;", true)
  | 2 => ("RiverWage$World", "floors", "LRiverWage$Floors;", true)
  | 3 => ("RiverWage$World", "cells", "LRiverWage$Ledger;", true)
  | 4 => ("RiverWage$World", "facts", "[I", true)
  | _ => ("RiverWage$World", "g", "J", false)
def tyX10 : Nat → FieldType := fun k => match k with
  | 0 => .object "RiverWage$Roster"
  | 1 => .object "RiverWage$Ledger"
  | 2 => .object "RiverWage$Floors"
  | 3 => .object "RiverWage$Ledger"
  | 4 => .array .int
  | _ => .long
abbrev wsX100 : List Cond := u_ws RX10 TX10 6
theorem nmX10 : ∀ a, a < 6 → ∀ b, b < 6 → a ≠ b → (TX10 a).2.1 ≠ (TX10 b).2.1 := by decide +kernel
theorem tyX10_ok : ∀ k, k < 6 → parseFieldDescriptor (TX10 k).2.2.1 = some (tyX10 k) := by decide +kernel
def RX11 : String := "RiverWage"
def TX11 : u_T := fun k => match k with
  | 0 => ("RiverWage", "roster", "LRiverWage$Roster;", true)
  | 1 => ("RiverWage", "floors", "LRiverWage$Floors;", true)
  | 2 => ("RiverWage", "calls", "LRiverWage$Ledger;", true)
  | 3 => ("RiverWage", "sheets", "LRiverWage$Ledger;", true)
  | 4 => ("RiverWage", "hours", "[I", true)
  | 5 => ("RiverWage", "takings", "[I", true)
  | 6 => ("RiverWage", "halfTenths", "I", false)
  | 7 => ("RiverWage", "sides", "LRiverWage$Sides;", true)
  | 8 => ("RiverWage", "answer", "LRiverWage$Fraction;", true)
  | 9 => ("RiverWage", "extreme", "LRiverWage$Fraction;", true)
  | 10 => ("RiverWage", "tape", "LRiverWage$Tokens;", true)
  | 11 => ("RiverWage", "lawReader", "LRiverWage$Reader;", true)
  | 12 => ("RiverWage", "writerReader", "LRiverWage$Reader;", true)
  | 13 => ("RiverWage", "draft", "LRiverWage$Script;", true)
  | 14 => ("RiverWage", "laws", "[LRiverWage$Script;", true)
  | 15 => ("RiverWage", "writers", "[LRiverWage$Script;", true)
  | 16 => ("RiverWage", "writerFacts", "[I", true)
  | 17 => ("RiverWage", "ran", "LRiverWage$World;", true)
  | 18 => ("RiverWage", "otherRivers", "LRiverWage$OtherRivers;", true)
  | _ => ("RiverWage", "marks", "[LRiverWage$Mark;", true)
def tyX11 : Nat → FieldType := fun k => match k with
  | 0 => .object "RiverWage$Roster"
  | 1 => .object "RiverWage$Floors"
  | 2 => .object "RiverWage$Ledger"
  | 3 => .object "RiverWage$Ledger"
  | 4 => .array .int
  | 5 => .array .int
  | 6 => .int
  | 7 => .object "RiverWage$Sides"
  | 8 => .object "RiverWage$Fraction"
  | 9 => .object "RiverWage$Fraction"
  | 10 => .object "RiverWage$Tokens"
  | 11 => .object "RiverWage$Reader"
  | 12 => .object "RiverWage$Reader"
  | 13 => .object "RiverWage$Script"
  | 14 => .array (.object "RiverWage$Script")
  | 15 => .array (.object "RiverWage$Script")
  | 16 => .array .int
  | 17 => .object "RiverWage$World"
  | 18 => .object "RiverWage$OtherRivers"
  | _ => .array (.object "RiverWage$Mark")
abbrev wsX110 : List Cond := u_ws RX11 TX11 20
theorem nmX11 : ∀ a, a < 20 → ∀ b, b < 20 → a ≠ b → (TX11 a).2.1 ≠ (TX11 b).2.1 := by decide +kernel
theorem tyX11_ok : ∀ k, k < 20 → parseFieldDescriptor (TX11 k).2.2.1 = some (tyX11 k) := by decide +kernel
def RX12 : String := "RiverWageModel"
def TX12 : u_T := fun k => match k with
  | 0 => ("RiverWageModel", "thrown", "I", false)
  | 1 => ("RiverWageModel", "tape", "[I", true)
  | 2 => ("RiverWageModel", "taped", "I", false)
  | 3 => ("RiverWageModel", "size", "I", false)
  | 4 => ("RiverWageModel", "sort", "[I", true)
  | 5 => ("RiverWageModel", "place", "[I", true)
  | 6 => ("RiverWageModel", "value", "[J", true)
  | 7 => ("RiverWageModel", "at", "I", false)
  | 8 => ("RiverWageModel", "fault", "I", false)
  | 9 => ("RiverWageModel", "words", "[J", true)
  | 10 => ("RiverWageModel", "isTold", "[Z", true)
  | 11 => ("RiverWageModel", "bankOf", "[I", true)
  | 12 => ("RiverWageModel", "wage", "[I", true)
  | 13 => ("RiverWageModel", "most", "[I", true)
  | 14 => ("RiverWageModel", "isChosen", "[Z", true)
  | 15 => ("RiverWageModel", "ofTen", "I", false)
  | 16 => ("RiverWageModel", "floorOf", "[I", true)
  | 17 => ("RiverWageModel", "tradeOf", "[I", true)
  | 18 => ("RiverWageModel", "state", "[I", true)
  | 19 => ("RiverWageModel", "whole", "[I", true)
  | 20 => ("RiverWageModel", "half", "[I", true)
  | 21 => ("RiverWageModel", "isSheet", "[I", true)
  | 22 => ("RiverWageModel", "sheetWhole", "[I", true)
  | 23 => ("RiverWageModel", "sheetHalf", "[I", true)
  | 24 => ("RiverWageModel", "up", "J", false)
  | 25 => ("RiverWageModel", "down", "J", false)
  | 26 => ("RiverWageModel", "one", "J", false)
  | 27 => ("RiverWageModel", "oneMany", "J", false)
  | 28 => ("RiverWageModel", "other", "J", false)
  | 29 => ("RiverWageModel", "otherMany", "J", false)
  | 30 => ("RiverWageModel", "changes", "[I", true)
  | 31 => ("RiverWageModel", "lineAt", "[I", true)
  | 32 => ("RiverWageModel", "codes", "I", false)
  | 33 => ("RiverWageModel", "op", "[I", true)
  | 34 => ("RiverWageModel", "arg", "[I", true)
  | 35 => ("RiverWageModel", "writerFacts", "[I", true)
  | 36 => ("RiverWageModel", "facts", "[I", true)
  | 37 => ("RiverWageModel", "pile", "[I", true)
  | 38 => ("RiverWageModel", "worldWhole", "[I", true)
  | 39 => ("RiverWageModel", "worldHalf", "[I", true)
  | 40 => ("RiverWageModel", "worldShut", "[Z", true)
  | 41 => ("RiverWageModel", "riversMany", "I", false)
  | 42 => ("RiverWageModel", "sumThere", "[I", true)
  | 43 => ("RiverWageModel", "manyThere", "[I", true)
  | 44 => ("RiverWageModel", "isPrinted", "[Z", true)
  | 45 => ("RiverWageModel", "isWriter", "Z", false)
  | 46 => ("RiverWageModel", "takeAt", "[I", true)
  | 47 => ("RiverWageModel", "fromOf", "[I", true)
  | 48 => ("RiverWageModel", "toOf", "[I", true)
  | 49 => ("RiverWageModel", "tenthsOf", "[I", true)
  | 50 => ("RiverWageModel", "readOf", "[I", true)
  | 51 => ("RiverWageModel", "hoursOf", "[I", true)
  | 52 => ("RiverWageModel", "takings", "[I", true)
  | 53 => ("RiverWageModel", "lotOne", "[I", true)
  | 54 => ("RiverWageModel", "lotOther", "[I", true)
  | 55 => ("RiverWageModel", "isMarked", "[Z", true)
  | 56 => ("RiverWageModel", "markRivers", "[I", true)
  | _ => ("RiverWageModel", "kept", "[I", true)
def tyX12 : Nat → FieldType := fun k => match k with
  | 0 => .int
  | 1 => .array .int
  | 2 => .int
  | 3 => .int
  | 4 => .array .int
  | 5 => .array .int
  | 6 => .array .long
  | 7 => .int
  | 8 => .int
  | 9 => .array .long
  | 10 => .array .boolean
  | 11 => .array .int
  | 12 => .array .int
  | 13 => .array .int
  | 14 => .array .boolean
  | 15 => .int
  | 16 => .array .int
  | 17 => .array .int
  | 18 => .array .int
  | 19 => .array .int
  | 20 => .array .int
  | 21 => .array .int
  | 22 => .array .int
  | 23 => .array .int
  | 24 => .long
  | 25 => .long
  | 26 => .long
  | 27 => .long
  | 28 => .long
  | 29 => .long
  | 30 => .array .int
  | 31 => .array .int
  | 32 => .int
  | 33 => .array .int
  | 34 => .array .int
  | 35 => .array .int
  | 36 => .array .int
  | 37 => .array .int
  | 38 => .array .int
  | 39 => .array .int
  | 40 => .array .boolean
  | 41 => .int
  | 42 => .array .int
  | 43 => .array .int
  | 44 => .array .boolean
  | 45 => .boolean
  | 46 => .array .int
  | 47 => .array .int
  | 48 => .array .int
  | 49 => .array .int
  | 50 => .array .int
  | 51 => .array .int
  | 52 => .array .int
  | 53 => .array .int
  | 54 => .array .int
  | 55 => .array .boolean
  | 56 => .array .int
  | _ => .array .int
abbrev wsX120 : List Cond := u_ws RX12 TX12 58
theorem nmX12 : ∀ a, a < 58 → ∀ b, b < 58 → a ≠ b → (TX12 a).2.1 ≠ (TX12 b).2.1 := by decide +kernel
theorem tyX12_ok : ∀ k, k < 58 → parseFieldDescriptor (TX12 k).2.2.1 = some (tyX12 k) := by decide +kernel
def RL : String := "RiverWageLaw"
abbrev vwCl : List vw_C := [(RX0, TX0, 2), (RX1, TX1, 2), (RX2, TX2, 1), (RX3, TX3, 4), (RX4, TX4, 4), (RX5, TX5, 9), (RX6, TX6, 5), (RX7, TX7, 7), (RX8, TX8, 5), (RX9, TX9, 6), (RX10, TX10, 6), (RX11, TX11, 20), (RX12, TX12, 58)]
end
section
/-! ===== BEGIN words of one list among another's, by their places ===== -/
theorem goodIn_r {big : List Cond} (ws : List Cond) (ps : List Nat) (hp : ws = ps.filterMap (fun i => big[i]?)) (h : ws.all goodWord = true) : GoodIn big ws := by
  intro w hw
  have h1 := List.all_eq_true.mp h w hw
  rw [hp] at hw
  obtain ⟨i, -, hi⟩ := List.mem_filterMap.mp hw
  have hm : w ∈ big := by first | exact List.mem_of_getElem? hi | exact List.getElem?_mem hi
  exact ⟨hm, good_of_word h1⟩
theorem goodIn_app {big a b : List Cond} (ha : GoodIn big a) (hb : GoodIn big b) : GoodIn big (a ++ b) := fun w h => (List.mem_append.mp h).elim (ha w) (hb w)
theorem goodIn_ca {big a b : List Cond} {c : Cond} (ha : GoodIn big (c :: a)) (hb : GoodIn big b) : GoodIn big (c :: (a ++ b)) := fun w h => (List.mem_cons.mp h).elim (fun e => ha w (List.mem_cons.mpr (Or.inl e))) (fun h => (List.mem_append.mp h).elim (fun h => ha w (List.mem_cons.mpr (Or.inr h))) (hb w))
theorem goodIn_sub {big ws : List Cond} (hm : ∀ w ∈ ws, w ∈ big) (h : ws.all goodWord = true) : GoodIn big ws := fun w hw => ⟨hm w hw, good_of_word (List.all_eq_true.mp h w hw)⟩
/-! ===== END ===== -/

/-! ===== BEGIN exceptions that leave a method, and their catching by the caller (launches without stack traces) ===== -/
section VXA
/-! The laws vx_back, vx_callV, vx_callS, vx_callSW, vx_throw0, vx_throwS follow proofs of the library, with one case more: JvmDerived/Free/Laws.lean (Back.of_free), Shelf42/LK1.lean (callV, callS), Shelf/KitTraced.lean (throwNew0V, throwNewS). -/
/-- where a method has thrown q: the class by its name, the cell, what was written, the world -/
def vx_T (XC : String → State → State → Prop) (st : State) (q : Addr) (t : State) (mc ms : Nat) (free : Addr → Prop) : Prop :=
  ∃ (E : String) (ce : Cell) (L : List Loc), XC E st t ∧ t.heap[q]? = some ce ∧ ce.vm = .none ∧ st.vm.findClass E = some ce.cls ∧ st.WarmedH t.vm ∧ st.sameButNew ({ t with vm := st.vm } : State) L mc ms ∧ ∀ z ∈ L, free z.base
def vx_Q (Qc : Array Value → State → Outcome → State → Prop) (XC : String → State → State → Prop) (mc ms : Nat) (free : Addr → Prop) : Array Value → State → Outcome → State → Prop := fun a st o t =>
  (Qc a st o t ∧ ∃ L, FrameEnd st o t L mc ms ∧ ∀ q ∈ L, free q.base) ∨ ∃ q, o = .threw q ∧ vx_T XC st q t mc ms free
/-- a callee that returns or throws -/
def vx_Met (l : Launch) (y : MethodName) (ws : List Cond) (rm : Room) (Pc : Array Value → State → Prop) (Qc : Array Value → State → Outcome → State → Prop) (XC : String → State → State → Prop) (mc ms : Nat) (free : Addr → Prop) : Prop :=
  MetFree l y (headSpec ws rm) Pc (fun _ _ _ _ _ => True) (vx_Q Qc XC mc ms free)
def vx_Post (XC : String → State → State → Prop) (mc ms : Nat) (free : Addr → Prop) : Pt → Array Value → Addr → Pt → Prop := fun A a q B =>
  ∃ (g : JFrame) (mk : MethodId) (t : State) (L : List Loc) (E : String) (ce : Cell), B.U.heap = t.heap ∧ B.U.vm = t.vm ∧ XC E (A.U.calling g mk a) t ∧ t.heap[q]? = some ce ∧ ce.vm = .none ∧ A.U.vm.findClass E = some ce.cls ∧ B.locs = A.locs ++ L ∧ (∀ z ∈ L, free z.base) ∧ B.cells = A.cells + mc ∧ B.slots = A.slots + ms
def vx_Back (l : Launch) (R : Room) (p : Program) (e : Env) (below : List Frame) (s : State) (sargs : Array Value) (y : MethodName) (len W9 : Nat)
    (Pre : Pt → Array Value → Prop) (Post : Pt → Array Value → Option Value → Pt → Prop) (PostX : Pt → Array Value → Addr → Pt → Prop) : Prop :=
  ∀ (m : MethodId) (meth : Method) (c : Code) (A : Pt) (g : JFrame) (ig : Instr) (mk : MethodId) (a : Array Value),
    Stand p l e R s m sargs below meth c A.U A.locs A.cells A.slots → g.method = m → g.locals.size = c.maxLocals → decode c.code g.pc = .ok (ig, len) →
    2 * g.monitorRoom + (g.stack.map fun v => v.category).sum ≤ W9 → A.U.methodNamed? y = some mk → Pre A a →
    (∃ (v : Option Value) (B : Pt), Stand p l e R s m sargs below meth c B.U B.locs B.cells B.slots ∧ Post A a v B ∧
      Steps p.tables e below (doInvoke e (A.U.setTop g) [] mk a).1 (B.U.setTop { g with pc := g.pc + len, stack := v.toList ++ g.stack })) ∨
    (∃ (q : Addr) (B : Pt), Stand p l e R s m sargs below meth c B.U B.locs B.cells B.slots ∧ PostX A a q B ∧
      Steps p.tables e below (doInvoke e (A.U.setTop g) [] mk a).1 ((B.U.setTop g).pushFrame (.throwing q)))
section Payer
variable {l : Launch} {R : Room} {p : Program} {e : Env} {below : List Frame} {s : State} {sargs : Array Value} {y : MethodName} {len W9 : Nat}
theorem vx_back {ws : List Cond} {rm : Room} {Pc : Array Value → State → Prop} {Qc : Array Value → State → Outcome → State → Prop} {XC : String → State → State → Prop} {mc ms : Nat} {free : Addr → Prop} {bytes : ByteArray} {maxL : Nat} {ret : Option FieldType}
    (hM : vx_Met l y ws rm Pc Qc XC mc ms free) (hblind : FrameBlind Pc) (hrc : rm.cells = mc) (hrs : rm.slots = ms)
    (hframes : rm.frames + 1 ≤ R.frames) (hlocals : W9 + (maxL + 11) + rm.locals ≤ R.locals)
    (hws : ∀ w ∈ ws, ∀ a' U, s.WarmedH U.vm → w.before a' U = true) (hcode : Cond.code y bytes maxL ret ∈ ws) (hinit : ∀ a' U, s.WarmedH U.vm → (Cond.initialized y.cls).before a' U = true) :
    vx_Back l R p e below s sargs y len W9 (PreOf R mc ms Pc) (PostOf Qc mc ms free) (vx_Post XC mc ms free) := by
  intro m meth c A g ig mk a X hg hsize hdg hW hn hp
  have h1 : (headSpec ws rm).pre.before a A.U = true := atoms_intro fun w hw => hws w hw _ _ X.warmed
  have h2 : (Cond.code y bytes maxL ret).before a A.U = true := hws _ hcode _ _ X.warmed
  have h3 : (Cond.initialized y.cls).before a A.U = true := hinit _ _ X.warmed
  have h4 : A.cells + (headSpec ws rm).room.cells ≤ R.cells := by rw [show (headSpec ws rm).room.cells = mc from hrc]; exact hp.1
  have h5 : A.slots + (headSpec ws rm).room.slots ≤ R.slots := by rw [show (headSpec ws rm).room.slots = ms from hrs]; exact hp.2.1
  have hPc : Pc a (A.U.calling g mk a) := hblind _ _ _ _ hp.2.2
  obtain ⟨U, Ls, c0, s0⟩ := A
  dsimp only [Pt.U, Pt.locs, Pt.cells, Pt.slots] at h1 h2 h3 h4 h5 X hn hPc ⊢
  obtain ⟨methY, cY, hmY, hcY, -, hlY, -, -, -, -⟩ := Cond.code_spec hn h2
  obtain ⟨kY, hkY, -⟩ := className_of_methodNamed hn
  have hinitY : kY.init = .initialized := Cond.initialized_spec (findClass_of_methodNamed hn) hkY h3
  have h : At U g.method c below := by rw [hg]; exact X.here
  have hlocals9 : W9 + (maxL + 11) + (headSpec ws rm).room.locals ≤ R.locals := hlocals
  have happ : (headSpec ws rm).appliesLoose y e.platform (U.calling g mk a) = true :=
    Spec.appliesLoose_calling (g := g) h hdg hn hkY hinitY
      (X.room_calling (g := g) (R' := (headSpec ws rm).room) hsize hmY hcY hframes (by rw [hlY]; omega) h4 h5) h1
  obtain ⟨mid, hmid⟩ := h.above
  have hfr : (U.setTop g).frames = (.java g :: mid) ++ below := by rw [State.frames_setTop' g h.top, hmid]; rfl
  obtain ⟨o, s₂, hsteps, -, hend, hq⟩ := Steps.callFree hM p X.admits X.cas X.clock (acts := []) hfr happ hPc trivial
  have hq' : vx_Q Qc XC mc ms free a (U.calling g mk a) o s₂ := hq
  rw [State.frames_setTop' g h.top] at hend
  obtain ⟨g₀, hg0⟩ := Option.isSome_iff_exists.mp h.top
  obtain ⟨r, hr⟩ := State.topJava?_eq_some.mp hg0
  have hr' : (({ U with heap := s₂.heap, slotsUsed := s₂.slotsUsed } : State).setVm s₂.vm).frames = .java g₀ :: r := hr
  rcases hq' with ⟨hqc, L, hfe, hL⟩ | ⟨q, rfl, E, ce, L, hx, hce, hcv, hcl, hW₂, hsm, hL⟩
  · obtain ⟨⟨v, rfl⟩, hW₂, e2, q2, q3, q4, q5, q6⟩ := id hfe
    have e3 : s₂ = ({ (U.calling g mk a).setFrames s₂.frames with heap := s₂.heap, slotsUsed := s₂.slotsUsed } : State).setVm s₂.vm := by
      have : s₂ = ({ s₂ with vm := (U.calling g mk a).vm } : State).setVm s₂.vm := rfl
      rw [e2] at this
      exact this
    obtain ⟨c₂, i₂, len₂, hc₂, hd₂, hf₂⟩ := hend
    have hW' : U.WarmedH s₂.vm := hW₂
    have hcc : c₂ = c := by
      have h1 : s₂.code? g.method = U.code? g.method := by
        rw [State.code?_eq, State.code?_eq, hW'.alike.method?]
      exact Option.some.inj (hc₂.symm.trans (h1.trans h.code))
    subst hcc
    have hlen : len₂ = len := by rw [hdg] at hd₂; cases hd₂; rfl
    subst hlen
    have hs₂ : s₂ = (({ U with heap := s₂.heap, slotsUsed := s₂.slotsUsed } : State).setVm s₂.vm).setTop { g with pc := g.pc + len₂, stack := v.toList ++ g.stack } := by
      refine e3.trans ?_
      rw [hf₂, State.calling_eq h.top, State.setFrames_setFrames, State.setTop_of_frames _ hr', hr]
      rfl
    have hsame : U.sameButNew ({ U with heap := s₂.heap, slotsUsed := s₂.slotsUsed } : State) L mc ms := by
      refine ⟨?_, q2, q3, q4, q5, q6⟩
      obtain ⟨t, ht, -⟩ := State.frames_cons hr
      show ({ U with heap := s₂.heap, slotsUsed := s₂.slotsUsed } : State) = { U.setFrames U.frames with heap := s₂.heap, slotsUsed := s₂.slotsUsed }
      rw [State.setFrames_self ht]
    subst hg
    refine Or.inl ⟨v, ⟨(({ U with heap := s₂.heap, slotsUsed := s₂.slotsUsed } : State).setVm s₂.vm), Ls ++ L, c0 + mc, s0 + ms⟩,
      ⟨X.admits, X.cas, X.clock, X.frames, X.room, X.hears, X.method, X.code, (X.here.setHeapUsed s₂.heap s₂.slotsUsed).setVm hW'.alike, X.tail, State.WarmedH.trans X.warmed hW', X.limits, X.bytes, X.same.trans (hsame.setVm s.vm)⟩,
      ⟨g, mk, s₂, L, rfl, rfl, hqc, rfl, hL, rfl, rfl⟩, ?_⟩
    show Steps p.tables e below _ ((({ U with heap := s₂.heap, slotsUsed := s₂.slotsUsed } : State).setVm s₂.vm).setTop { g with pc := g.pc + len₂, stack := v.toList ++ g.stack })
    rw [← hs₂]
    exact hsteps
  · obtain ⟨e2, q2, q3, q4, q5, q6⟩ := id hsm
    have e3 : s₂ = ({ (U.calling g mk a).setFrames s₂.frames with heap := s₂.heap, slotsUsed := s₂.slotsUsed } : State).setVm s₂.vm := by
      have : s₂ = ({ s₂ with vm := (U.calling g mk a).vm } : State).setVm s₂.vm := rfl
      rw [e2] at this
      exact this
    have hf₂ : s₂.frames = .throwing q :: .java g :: U.frames.tail := hend
    have hW' : U.WarmedH s₂.vm := hW₂
    have hs₂ : s₂ = ((({ U with heap := s₂.heap, slotsUsed := s₂.slotsUsed } : State).setVm s₂.vm).setTop g).pushFrame (.throwing q) := by
      refine e3.trans ?_
      rw [hf₂, State.calling_eq h.top, State.setFrames_setFrames, State.pushFrame, State.frames_setTop _ hr', State.setTop_of_frames _ hr', State.setFrames_setFrames, hr]
      rfl
    have hsame : U.sameButNew ({ U with heap := s₂.heap, slotsUsed := s₂.slotsUsed } : State) L mc ms := by
      refine ⟨?_, q2, q3, q4, q5, q6⟩
      obtain ⟨t, ht, -⟩ := State.frames_cons hr
      show ({ U with heap := s₂.heap, slotsUsed := s₂.slotsUsed } : State) = { U.setFrames U.frames with heap := s₂.heap, slotsUsed := s₂.slotsUsed }
      rw [State.setFrames_self ht]
    subst hg
    refine Or.inr ⟨q, ⟨(({ U with heap := s₂.heap, slotsUsed := s₂.slotsUsed } : State).setVm s₂.vm), Ls ++ L, c0 + mc, s0 + ms⟩,
      ⟨X.admits, X.cas, X.clock, X.frames, X.room, X.hears, X.method, X.code, (X.here.setHeapUsed s₂.heap s₂.slotsUsed).setVm hW'.alike, X.tail, State.WarmedH.trans X.warmed hW', X.limits, X.bytes, X.same.trans (hsame.setVm s.vm)⟩,
      ⟨g, mk, s₂, L, E, ce, rfl, rfl, hx, hce, hcv, hcl, rfl, hL, rfl, rfl⟩, ?_⟩
    show Steps p.tables e below _ (((({ U with heap := s₂.heap, slotsUsed := s₂.slotsUsed } : State).setVm s₂.vm).setTop g).pushFrame (.throwing q))
    rw [← hs₂]
    exact hsteps
end Payer
section Calls
variable {p : Program} {l : Launch} {e : Env} {R : Room} {s : State} {m : MethodId} {args : Array Value} {below : List Frame} {meth : Method} {c : Code} {T : State} {locs : List Loc} {cells slots : Nat}
theorem vx_callV (X : Stand p l e R s m args below meth c T locs cells slots) (hexec : p.tables.exec = Jvm.exec) {own C : String} {index : Nat} {y : MethodName} {bytes : ByteArray} {maxL : Nat} {ret : Option FieldType}
    (hown : s.vm.findClass own = some m.cls) (hlink : (Cond.methodLink own index y).before args s = true) (hinst : (Cond.instanceMethod y).before args s = true) (hsel : (Cond.selects C y y).before args s = true)
    (hcode : (Cond.code y bytes maxL ret).before args s = true) (hy : y.cls ≠ "java/lang/invoke/MethodHandle" ∧ y.cls ≠ "java/lang/invoke/VarHandle")
    {W9 : Nat} {Pre : Pt → Array Value → Prop} {Post : Pt → Array Value → Option Value → Pt → Prop} {PostX : Pt → Array Value → Addr → Pt → Prop} (hK : vx_Back l R p e below s args y 3 W9 Pre Post PostX)
    {b : Addr} {cellB : Cell} (hcell : T.heap[b]? = some cellB) (hobj : cellB.vm.isStatics = false) (hcls : s.vm.findClass C = some cellB.cls)
    {g : JFrame} (hg : g.method = m) (hsize : g.locals.size = c.maxLocals) {argsL rest : List Value} (hlen : ∀ sig, parseMethodDescriptor y.desc = some sig → argsL.length = sig.parameters.length)
    (hstack : g.stack = argsL.reverse ++ .ref b :: rest) (hW : 2 * g.monitorRoom + (rest.map fun v => v.category).sum ≤ W9) (hdg : decode c.code g.pc = .ok (.invokevirtual index, 3))
    (hpre : ∀ vm₁, s.WarmedH vm₁ → Pre ⟨T.setVm vm₁, locs, cells, slots⟩ (Value.ref b :: argsL).toArray) :
    (∃ (v : Option Value) (vm₁ : Vm) (B : Pt), s.WarmedH vm₁ ∧ Stand p l e R s m args below meth c B.U B.locs B.cells B.slots ∧ Post ⟨T.setVm vm₁, locs, cells, slots⟩ (Value.ref b :: argsL).toArray v B ∧
      ∀ target, Steps p.tables e below (B.U.setTop { g with pc := g.pc + 3, stack := v.toList ++ rest }) target → Steps p.tables e below (T.setTop g) target) ∨
    (∃ (q : Addr) (vm₁ : Vm) (B : Pt), s.WarmedH vm₁ ∧ Stand p l e R s m args below meth c B.U B.locs B.cells B.slots ∧ PostX ⟨T.setVm vm₁, locs, cells, slots⟩ (Value.ref b :: argsL).toArray q B ∧
      Steps p.tables e below (T.setTop g) ((B.U.setTop { g with stack := rest }).pushFrame (.throwing q))) := by
  obtain ⟨mk, methM, hnamed, hmethM, hstM, habM⟩ := Cond.instanceMethod_spec hinst
  obtain ⟨methM', cM, hmethM', -, -, -, -, -, -, hsigM⟩ := Cond.code_spec hnamed hcode
  cases hmethM.symm.trans hmethM'
  obtain ⟨c2, r2, m2, q1, q2, q3, q4, kP, hkP, hkPi⟩ := Cond.selects_spec hsel
  cases hcls.symm.trans q1
  cases (State.methodFound?_of_named hnamed hy).symm.trans q2
  cases hnamed.symm.trans q3
  have hselP : selectMethod e.platform s.vm cellB.cls mk = .method mk := by rw [Launch.admits_selectMethod X.admits]; exact q4
  obtain ⟨vm₁, X₁, hstep₁⟩ := X.invokevirtual hexec hown hlink hnamed hmethM hstM hkP hkPi hy (a := b) (cell := cellB) hcell
    (fun z h => by rw [h] at hobj; cases hobj) hselP hmethM habM hkP hkPi (g := g) hg (argsL := argsL) (rest := rest) (hlen _ hsigM) hstack hdg
  rcases hK m meth c ⟨T.setVm vm₁, locs, cells, slots⟩ { g with stack := rest } (.invokevirtual index) mk (Value.ref b :: argsL).toArray X₁ hg hsize hdg hW (X₁.named hnamed) (hpre vm₁ X₁.warmed) with ⟨v, B, X', hpost, hsteps⟩ | ⟨q, B, X', hpost, hsteps⟩
  · exact Or.inl ⟨v, vm₁, B, X₁.warmed, X', hpost, fun target h => hstep₁ _ fun acts => by rw [doInvoke_state]; exact hsteps.trans h⟩
  · exact Or.inr ⟨q, vm₁, B, X₁.warmed, X', hpost, hstep₁ _ fun acts => by rw [doInvoke_state]; exact hsteps⟩
theorem vx_callS (X : Stand p l e R s m args below meth c T locs cells slots) (hexec : p.tables.exec = Jvm.exec) {own : String} {index : Nat} {y : MethodName} {bytes : ByteArray} {maxL : Nat} {ret : Option FieldType}
    (hown : s.vm.findClass own = some m.cls) (hlink : (Cond.methodLink own index y).before args s = true) (hstat : (Cond.static y).before args s = true) (hinit : (Cond.initialized y.cls).before args s = true)
    (hcode : (Cond.code y bytes maxL ret).before args s = true) (hy : y.cls ≠ "java/lang/invoke/MethodHandle" ∧ y.cls ≠ "java/lang/invoke/VarHandle")
    {W9 : Nat} {Pre : Pt → Array Value → Prop} {Post : Pt → Array Value → Option Value → Pt → Prop} {PostX : Pt → Array Value → Addr → Pt → Prop} (hK : vx_Back l R p e below s args y 3 W9 Pre Post PostX)
    {g : JFrame} (hg : g.method = m) (hsize : g.locals.size = c.maxLocals) {argsL rest : List Value} (hlen : ∀ sig, parseMethodDescriptor y.desc = some sig → argsL.length = sig.parameters.length)
    (hstack : g.stack = argsL.reverse ++ rest) (hW : 2 * g.monitorRoom + (rest.map fun v => v.category).sum ≤ W9) (hdg : decode c.code g.pc = .ok (.invokestatic index, 3))
    (hpre : ∀ vm₁, s.WarmedH vm₁ → Pre ⟨T.setVm vm₁, locs, cells, slots⟩ argsL.toArray) :
    (∃ (v : Option Value) (vm₁ : Vm) (B : Pt), s.WarmedH vm₁ ∧ Stand p l e R s m args below meth c B.U B.locs B.cells B.slots ∧ Post ⟨T.setVm vm₁, locs, cells, slots⟩ argsL.toArray v B ∧
      ∀ target, Steps p.tables e below (B.U.setTop { g with pc := g.pc + 3, stack := v.toList ++ rest }) target → Steps p.tables e below (T.setTop g) target) ∨
    (∃ (q : Addr) (vm₁ : Vm) (B : Pt), s.WarmedH vm₁ ∧ Stand p l e R s m args below meth c B.U B.locs B.cells B.slots ∧ PostX ⟨T.setVm vm₁, locs, cells, slots⟩ argsL.toArray q B ∧
      Steps p.tables e below (T.setTop g) ((B.U.setTop { g with stack := rest }).pushFrame (.throwing q))) := by
  obtain ⟨mk, hnamed⟩ := Cond.code_named hcode
  obtain ⟨methM, cM, hmethM, -, -, -, -, -, -, hsigM⟩ := Cond.code_spec hnamed hcode
  have hstatic : methM.isStatic = true := Cond.static_spec hnamed hmethM hstat
  obtain ⟨kP, hkP, -⟩ := className_of_methodNamed hnamed
  have hinitP : kP.init = .initialized := Cond.initialized_spec (findClass_of_methodNamed hnamed) hkP hinit
  obtain ⟨vm₁, X₁, hstep₁⟩ := X.invokestatic hexec hown hlink hnamed hmethM hstatic hkP hinitP hy (g := g) hg (argsL := argsL) (rest := rest) (hlen _ hsigM) hstack hdg
  rcases hK m meth c ⟨T.setVm vm₁, locs, cells, slots⟩ { g with stack := rest } (.invokestatic index) mk argsL.toArray X₁ hg hsize hdg hW (X₁.named hnamed) (hpre vm₁ X₁.warmed) with ⟨v, B, X', hpost, hsteps⟩ | ⟨q, B, X', hpost, hsteps⟩
  · exact Or.inl ⟨v, vm₁, B, X₁.warmed, X', hpost, fun target h => hstep₁ _ fun acts => by rw [doInvoke_state]; exact hsteps.trans h⟩
  · exact Or.inr ⟨q, vm₁, B, X₁.warmed, X', hpost, hstep₁ _ fun acts => by rw [doInvoke_state]; exact hsteps⟩
end Calls
theorem vx_cls {s : State} {T : State} {vm₁ : Vm} {E : String} {k : ClassId} (hW : s.WarmedH vm₁) (h : (T.setVm vm₁).vm.findClass E = some k) : s.vm.findClass E = some k := by
  have h1 : vm₁.findClass E = some k := h
  rw [hW.alike.findClass] at h1
  exact h1
/-- the method's frame g, with q thrown over it -/
def vx_W (p : Program) (l : Launch) (e : Env) (R : Room) (s : State) (m : MethodId) (args : Array Value) (below : List Frame) (meth : Method) (c : Code) (H : Heap) (locs : List Loc) (cells slots : Nat) (Q : State → Prop) (g : JFrame) (q : Addr) : Prop :=
  ∀ T : State, T.heap = H → Stand p l e R s m args below meth c T locs cells slots → ∃ t, Steps p.tables e below ((T.setTop g).pushFrame (.throwing q)) t ∧ Q t
def vx_Run (p : Program) (l : Launch) (e : Env) (R : Room) (s : State) (m : MethodId) (args : Array Value) (below : List Frame) (meth : Method) (c : Code) (H : Heap) (locs : List Loc) (cells slots mc ms : Nat) (g : JFrame) (rest : List Value) (Qa : State → Outcome → State → Prop) (XC : String → State → State → Prop) (free : Addr → Prop) : Prop :=
  ∀ T : State, T.heap = H → Stand p l e R s m args below meth c T locs cells slots →
    (∃ (v : Option Value) (st₀ t T' : State) (L : List Loc), st₀.heap = H ∧ Stand p l e R s m args below meth c T' (locs ++ L) (cells + mc) (slots + ms) ∧ (∀ q ∈ L, free q.base) ∧ T'.heap = t.heap ∧ T'.vm = t.vm ∧ Qa st₀ (.returned v) t ∧
      Goes p e below T g T' { g with pc := g.pc + 3, stack := v.toList ++ rest }) ∨
    (∃ (q : Addr) (st₀ t T' : State) (L : List Loc) (E : String) (ce : Cell), st₀.heap = H ∧ Stand p l e R s m args below meth c T' (locs ++ L) (cells + mc) (slots + ms) ∧ (∀ z ∈ L, free z.base) ∧ T'.heap = t.heap ∧ T'.vm = t.vm ∧ XC E st₀ t ∧ t.heap[q]? = some ce ∧ ce.vm = .none ∧ s.vm.findClass E = some ce.cls ∧
      Steps p.tables e below (T.setTop g) ((T'.setTop { g with stack := rest }).pushFrame (.throwing q)))
def vx_X {S : Type} (px : S → Prop) (B : String → S → State → Prop) (A : Nat → Prop) : String → State → State → Prop := fun E st t => ∃ u : S, px u ∧ B E u t ∧ va_F A st t
section Runs
variable {p : Program} {l : Launch} {e : Env} {R : Room} {s : State} {m : MethodId} {args : Array Value} {below : List Frame} {meth : Method} {c : Code} {H : Heap} {locs : List Loc} {cells slots : Nat}
variable {y : MethodName} {bytes cc : ByteArray} {maxL nL mc ms n index : Nat} {ret : Option FieldType} {ws : List Cond} {rm : Room} {Pc : Array Value → State → Prop} {Qc : Array Value → State → Outcome → State → Prop} {XC : String → State → State → Prop} {free : Addr → Prop} {Ts : List Cond} {own C : String} {b : Addr} {As rest : List Value} {g : JFrame}
theorem vx_callBack (cb : CallB R s args own index y bytes maxL ret ws rm mc ms n) (hM : vx_Met l y ws rm Pc Qc XC mc ms free) (hbl : FrameBlind Pc) : vx_Back l R p e below s args y 3 8 (PreOf R mc ms Pc) (PostOf Qc mc ms free) (vx_Post XC mc ms free) := by
  obtain ⟨hrc, hrs, hfr, hlo, hws, hcw, -, hini, -⟩ := cb
  exact vx_back (bytes := bytes) (maxL := maxL) (ret := ret) hM hbl hrc hrs hfr hlo hws hcw (fun a' U hW => word_at hW (Or.inl (by first | rfl | simp [Cond.onTables, Cond.keeps, Cond.steady])) hini)
theorem vx_runV (S : CallFix p m c cc nL s args Ts own) (hM : vx_Met l y ws rm Pc Qc XC mc ms free) (cw : CallW R s args own C index y bytes maxL ret ws rm mc ms n) (hp : PreV s H C b Pc As)
    (hg : g.method = m) (hn : As.length = n) (hsize : g.locals.size = nL) (hstack : g.stack = As.reverse ++ .ref b :: rest) (hW : 2 * g.monitorRoom + (rest.map fun v => v.category).sum ≤ 8) (hdg : decode cc g.pc = .ok (.invokevirtual index, 3)) (hf : cells + mc ≤ R.cells ∧ slots + ms ≤ R.slots) :
    vx_Run p l e R s m args below meth c H locs cells slots mc ms g rest (Qc (Value.ref b :: As).toArray) XC free := by
  have hK : vx_Back l R p e below s args y 3 8 (PreOf R mc ms Pc) (PostOf Qc mc ms free) (vx_Post XC mc ms free) := vx_callBack cw.1 hM hp.1
  obtain ⟨⟨-, -, -, -, -, -, hcode, -, hy, hlen, hl⟩, hin, hse⟩ := cw
  obtain ⟨hx, hb, hml, ho, -⟩ := S
  obtain ⟨-, ⟨cellB, hcB, hoB, hclB⟩, hPc⟩ := hp
  intro T hT X
  rcases vx_callV X hx (C := C) (bytes := bytes) (maxL := maxL) (ret := ret) ho hl hin hse hcode hy hK (by rw [hT]; exact hcB) hoB hclB hg (hsize.trans hml.symm) (argsL := As) (rest := rest) (fun sig h => hn.trans (hlen sig h)) hstack hW (by rw [hb]; exact hdg)
    (fun vm₁ hW₁ => ⟨hf.1, hf.2, hPc (T.setVm vm₁) hT hW₁⟩) with ⟨v, vm₁, ⟨U', l2, c2, s2⟩, hW₁, X', ⟨g', mk, t, L, e1, e2, hq, h1, hL, h2, h3⟩, st⟩ | ⟨q, vm₁, ⟨U', l2, c2, s2⟩, hW₁, X', ⟨g', mk, t, L, E, ce, e1, e2, hq, hce, hcv, hcl, h1, hL, h2, h3⟩, st⟩
  · dsimp only [Pt.U, Pt.locs, Pt.cells, Pt.slots] at X' e1 e2 h1 h2 h3 st
    subst h1; subst h2; subst h3
    exact Or.inl ⟨v, (T.setVm vm₁).calling g' mk (Value.ref b :: As).toArray, t, U', L, hT, X', hL, e1, e2, hq, st⟩
  · dsimp only [Pt.U, Pt.locs, Pt.cells, Pt.slots] at X' e1 e2 h1 h2 h3 st hcl
    subst h1; subst h2; subst h3
    exact Or.inr ⟨q, (T.setVm vm₁).calling g' mk (Value.ref b :: As).toArray, t, U', L, E, ce, hT, X', hL, e1, e2, hq, hce, hcv, vx_cls hW₁ hcl, st⟩
theorem vx_runS (S : CallFix p m c cc nL s args Ts own) (hM : vx_Met l y ws rm Pc Qc XC mc ms free) (cw : CallB R s args own index y bytes maxL ret ws rm mc ms n ∧ (Cond.static y).before args s = true) (hp : PreS s H Pc As)
    (hg : g.method = m) (hn : As.length = n) (hsize : g.locals.size = nL) (hstack : g.stack = As.reverse ++ rest) (hW : 2 * g.monitorRoom + (rest.map fun v => v.category).sum ≤ 8) (hdg : decode cc g.pc = .ok (.invokestatic index, 3)) (hf : cells + mc ≤ R.cells ∧ slots + ms ≤ R.slots) :
    vx_Run p l e R s m args below meth c H locs cells slots mc ms g rest (Qc As.toArray) XC free := by
  have hK : vx_Back l R p e below s args y 3 8 (PreOf R mc ms Pc) (PostOf Qc mc ms free) (vx_Post XC mc ms free) := vx_callBack cw.1 hM hp.1
  obtain ⟨⟨-, -, -, -, -, -, hcode, hini, hy, hlen, hl⟩, hstt⟩ := cw
  obtain ⟨hx, hb, hml, ho, -⟩ := S
  intro T hT X
  rcases vx_callS X hx (bytes := bytes) (maxL := maxL) (ret := ret) ho hl hstt hini hcode hy hK hg (hsize.trans hml.symm) (argsL := As) (rest := rest) (fun sig h => hn.trans (hlen sig h)) hstack hW (by rw [hb]; exact hdg)
    (fun vm₁ hW₁ => ⟨hf.1, hf.2, hp.2 (T.setVm vm₁) hT hW₁⟩) with ⟨v, vm₁, ⟨U', l2, c2, s2⟩, hW₁, X', ⟨g', mk, t, L, e1, e2, hq, h1, hL, h2, h3⟩, st⟩ | ⟨q, vm₁, ⟨U', l2, c2, s2⟩, hW₁, X', ⟨g', mk, t, L, E, ce, e1, e2, hq, hce, hcv, hcl, h1, hL, h2, h3⟩, st⟩
  · dsimp only [Pt.U, Pt.locs, Pt.cells, Pt.slots] at X' e1 e2 h1 h2 h3 st
    subst h1; subst h2; subst h3
    exact Or.inl ⟨v, (T.setVm vm₁).calling g' mk As.toArray, t, U', L, hT, X', hL, e1, e2, hq, st⟩
  · dsimp only [Pt.U, Pt.locs, Pt.cells, Pt.slots] at X' e1 e2 h1 h2 h3 st hcl
    subst h1; subst h2; subst h3
    exact Or.inr ⟨q, (T.setVm vm₁).calling g' mk As.toArray, t, U', L, E, ce, hT, X', hL, e1, e2, hq, hce, hcv, vx_cls hW₁ hcl, st⟩
end Runs
section Rows
variable {p : Program} {l : Launch} {e : Env} {R : Room} {s : State} {m : MethodId} {args : Array Value} {below : List Frame} {meth : Method} {c : Code} {H : Heap} {locs : List Loc} {cells slots : Nat} {Q : State → Prop}
variable {mc ms : Nat} {free : Addr → Prop} {A0 A1 : Nat → Prop} {H0 : Heap} {a : Array Value} {pc : Nat} {ls : Array Slot} {st0 rest : List Value}
theorem vx_keep {st₀ t T' : State} {L : List Loc} (h0 : st₀.heap = H) (e1 : T'.heap = t.heap) (hS : va_S A0 H0 H locs) (hA : ∀ q, q < H.size → A1 q → A0 q) (hf : ∀ q, free q → A0 q) (hL : ∀ q ∈ L, free q.base) (hF : va_F A1 st₀ t) :
    H.size ≤ T'.heap.size ∧ (∀ q : Nat, q < H.size → ¬ A1 q → T'.heap[q]? = H[q]?) ∧ va_S A0 H0 T'.heap (locs ++ L) := by
  obtain ⟨hz, hk⟩ := hF
  rw [h0] at hz hk
  exact ⟨by rw [e1]; exact hz, fun q h1 h2 => by rw [e1]; exact hk q h1 h2,
    ⟨Nat.le_trans hS.1 (by rw [e1]; exact hz), fun q h1 h2 => by rw [e1, hk q (Nat.lt_of_lt_of_le h1 hS.1) (fun z => h2 (hA q (Nat.lt_of_lt_of_le h1 hS.1) z))]; exact hS.2.1 q h1 h2, fun q hq => by
      rcases List.mem_append.mp hq with h | h
      · exact hS.2.2 q h
      · exact hf _ (hL q h)⟩⟩
theorem vx_calli {S SX : Type} {post : Int32 → S → Prop} {px : SX → Prop} {B : S → State → Prop} {BX : String → SX → State → Prop} {AX : Nat → Prop} (hr : vx_Run p l e R s m args below meth c H locs cells slots mc ms (F0 m pc ls st0) rest (va_Qi post B A1 a) (vx_X px BX AX) free) (hS : va_S A0 H0 H locs) (hA : ∀ q, q < H.size → A1 q → A0 q) (hf : ∀ q, free q → A0 q) (hAX : ∀ q, q < H.size → AX q → A0 q)
    (kx : ∀ (E : String) (ce : Cell) (q9 : Addr) (u : SX) (t : State) (H1 : Heap) (locs1 : List Loc), t.heap = H1 → s.vm.Alike t.vm → px u → BX E u t → H.size ≤ H1.size → (∀ q : Nat, q < H.size → ¬ AX q → H1[q]? = H[q]?) → va_S A0 H0 H1 locs1 → H1[q9]? = some ce → ce.vm = .none → s.vm.findClass E = some ce.cls → vx_W p l e R s m args below meth c H1 locs1 (cells + mc) (slots + ms) Q (F0 m pc ls rest) q9)
    (kk : ∀ (r : Int32) (u : S) (t : State) (H1 : Heap) (locs1 : List Loc), t.heap = H1 → s.vm.Alike t.vm → post r u → B u t → H.size ≤ H1.size → (∀ q : Nat, q < H.size → ¬ A1 q → H1[q]? = H[q]?) → va_S A0 H0 H1 locs1 → W p l e R s m args below meth c H1 locs1 (cells + mc) (slots + ms) Q (F0 m (pc + 3) ls (.int r :: rest))) : W p l e R s m args below meth c H locs cells slots Q (F0 m pc ls st0) := by
  intro T hT X
  rcases hr T hT X with ⟨v, st₀, t, T', L, h0, X', hL, e1, e2, ⟨⟨r, u, hv, hp, hb⟩, hF⟩, st⟩ | ⟨q, st₀, t, T', L, E, ce, h0, X', hL, e1, e2, ⟨u, hp, hb, hF⟩, hce, hcv, hcl, st⟩
  · cases hv
    obtain ⟨k1, k2, k3⟩ := vx_keep h0 e1 hS hA hf hL hF
    obtain ⟨t2, a1, b1⟩ := kk r u t T'.heap (locs ++ L) e1.symm (by rw [← e2]; exact X'.warmed.alike) hp hb k1 k2 k3 T' rfl X'
    exact ⟨t2, st t2 a1, b1⟩
  · obtain ⟨k1, k2, k3⟩ := vx_keep h0 e1 hS hAX hf hL hF
    obtain ⟨t2, a1, b1⟩ := kx E ce q u t T'.heap (locs ++ L) e1.symm (by rw [← e2]; exact X'.warmed.alike) hp hb k1 k2 k3 (by rw [e1]; exact hce) hcv hcl T' rfl X'
    exact ⟨t2, st.trans a1, b1⟩
theorem vx_calll {S SX : Type} {post : Int64 → S → Prop} {px : SX → Prop} {B : S → State → Prop} {BX : String → SX → State → Prop} {AX : Nat → Prop} (hr : vx_Run p l e R s m args below meth c H locs cells slots mc ms (F0 m pc ls st0) rest (va_Ql post B A1 a) (vx_X px BX AX) free) (hS : va_S A0 H0 H locs) (hA : ∀ q, q < H.size → A1 q → A0 q) (hf : ∀ q, free q → A0 q) (hAX : ∀ q, q < H.size → AX q → A0 q)
    (kx : ∀ (E : String) (ce : Cell) (q9 : Addr) (u : SX) (t : State) (H1 : Heap) (locs1 : List Loc), t.heap = H1 → s.vm.Alike t.vm → px u → BX E u t → H.size ≤ H1.size → (∀ q : Nat, q < H.size → ¬ AX q → H1[q]? = H[q]?) → va_S A0 H0 H1 locs1 → H1[q9]? = some ce → ce.vm = .none → s.vm.findClass E = some ce.cls → vx_W p l e R s m args below meth c H1 locs1 (cells + mc) (slots + ms) Q (F0 m pc ls rest) q9)
    (kk : ∀ (r : Int64) (u : S) (t : State) (H1 : Heap) (locs1 : List Loc), t.heap = H1 → s.vm.Alike t.vm → post r u → B u t → H.size ≤ H1.size → (∀ q : Nat, q < H.size → ¬ A1 q → H1[q]? = H[q]?) → va_S A0 H0 H1 locs1 → W p l e R s m args below meth c H1 locs1 (cells + mc) (slots + ms) Q (F0 m (pc + 3) ls (.long r :: rest))) : W p l e R s m args below meth c H locs cells slots Q (F0 m pc ls st0) := by
  intro T hT X
  rcases hr T hT X with ⟨v, st₀, t, T', L, h0, X', hL, e1, e2, ⟨⟨r, u, hv, hp, hb⟩, hF⟩, st⟩ | ⟨q, st₀, t, T', L, E, ce, h0, X', hL, e1, e2, ⟨u, hp, hb, hF⟩, hce, hcv, hcl, st⟩
  · cases hv
    obtain ⟨k1, k2, k3⟩ := vx_keep h0 e1 hS hA hf hL hF
    obtain ⟨t2, a1, b1⟩ := kk r u t T'.heap (locs ++ L) e1.symm (by rw [← e2]; exact X'.warmed.alike) hp hb k1 k2 k3 T' rfl X'
    exact ⟨t2, st t2 a1, b1⟩
  · obtain ⟨k1, k2, k3⟩ := vx_keep h0 e1 hS hAX hf hL hF
    obtain ⟨t2, a1, b1⟩ := kx E ce q u t T'.heap (locs ++ L) e1.symm (by rw [← e2]; exact X'.warmed.alike) hp hb k1 k2 k3 (by rw [e1]; exact hce) hcv hcl T' rfl X'
    exact ⟨t2, st.trans a1, b1⟩
theorem vx_callf {S SX : Type} {post : UInt32 → S → Prop} {px : SX → Prop} {B : S → State → Prop} {BX : String → SX → State → Prop} {AX : Nat → Prop} (hr : vx_Run p l e R s m args below meth c H locs cells slots mc ms (F0 m pc ls st0) rest (va_Qf post B A1 a) (vx_X px BX AX) free) (hS : va_S A0 H0 H locs) (hA : ∀ q, q < H.size → A1 q → A0 q) (hf : ∀ q, free q → A0 q) (hAX : ∀ q, q < H.size → AX q → A0 q)
    (kx : ∀ (E : String) (ce : Cell) (q9 : Addr) (u : SX) (t : State) (H1 : Heap) (locs1 : List Loc), t.heap = H1 → s.vm.Alike t.vm → px u → BX E u t → H.size ≤ H1.size → (∀ q : Nat, q < H.size → ¬ AX q → H1[q]? = H[q]?) → va_S A0 H0 H1 locs1 → H1[q9]? = some ce → ce.vm = .none → s.vm.findClass E = some ce.cls → vx_W p l e R s m args below meth c H1 locs1 (cells + mc) (slots + ms) Q (F0 m pc ls rest) q9)
    (kk : ∀ (r : UInt32) (u : S) (t : State) (H1 : Heap) (locs1 : List Loc), t.heap = H1 → s.vm.Alike t.vm → post r u → B u t → H.size ≤ H1.size → (∀ q : Nat, q < H.size → ¬ A1 q → H1[q]? = H[q]?) → va_S A0 H0 H1 locs1 → W p l e R s m args below meth c H1 locs1 (cells + mc) (slots + ms) Q (F0 m (pc + 3) ls (.float r :: rest))) : W p l e R s m args below meth c H locs cells slots Q (F0 m pc ls st0) := by
  intro T hT X
  rcases hr T hT X with ⟨v, st₀, t, T', L, h0, X', hL, e1, e2, ⟨⟨r, u, hv, hp, hb⟩, hF⟩, st⟩ | ⟨q, st₀, t, T', L, E, ce, h0, X', hL, e1, e2, ⟨u, hp, hb, hF⟩, hce, hcv, hcl, st⟩
  · cases hv
    obtain ⟨k1, k2, k3⟩ := vx_keep h0 e1 hS hA hf hL hF
    obtain ⟨t2, a1, b1⟩ := kk r u t T'.heap (locs ++ L) e1.symm (by rw [← e2]; exact X'.warmed.alike) hp hb k1 k2 k3 T' rfl X'
    exact ⟨t2, st t2 a1, b1⟩
  · obtain ⟨k1, k2, k3⟩ := vx_keep h0 e1 hS hAX hf hL hF
    obtain ⟨t2, a1, b1⟩ := kx E ce q u t T'.heap (locs ++ L) e1.symm (by rw [← e2]; exact X'.warmed.alike) hp hb k1 k2 k3 (by rw [e1]; exact hce) hcv hcl T' rfl X'
    exact ⟨t2, st.trans a1, b1⟩
theorem vx_calld {S SX : Type} {post : UInt64 → S → Prop} {px : SX → Prop} {B : S → State → Prop} {BX : String → SX → State → Prop} {AX : Nat → Prop} (hr : vx_Run p l e R s m args below meth c H locs cells slots mc ms (F0 m pc ls st0) rest (va_Qd post B A1 a) (vx_X px BX AX) free) (hS : va_S A0 H0 H locs) (hA : ∀ q, q < H.size → A1 q → A0 q) (hf : ∀ q, free q → A0 q) (hAX : ∀ q, q < H.size → AX q → A0 q)
    (kx : ∀ (E : String) (ce : Cell) (q9 : Addr) (u : SX) (t : State) (H1 : Heap) (locs1 : List Loc), t.heap = H1 → s.vm.Alike t.vm → px u → BX E u t → H.size ≤ H1.size → (∀ q : Nat, q < H.size → ¬ AX q → H1[q]? = H[q]?) → va_S A0 H0 H1 locs1 → H1[q9]? = some ce → ce.vm = .none → s.vm.findClass E = some ce.cls → vx_W p l e R s m args below meth c H1 locs1 (cells + mc) (slots + ms) Q (F0 m pc ls rest) q9)
    (kk : ∀ (r : UInt64) (u : S) (t : State) (H1 : Heap) (locs1 : List Loc), t.heap = H1 → s.vm.Alike t.vm → post r u → B u t → H.size ≤ H1.size → (∀ q : Nat, q < H.size → ¬ A1 q → H1[q]? = H[q]?) → va_S A0 H0 H1 locs1 → W p l e R s m args below meth c H1 locs1 (cells + mc) (slots + ms) Q (F0 m (pc + 3) ls (.double r :: rest))) : W p l e R s m args below meth c H locs cells slots Q (F0 m pc ls st0) := by
  intro T hT X
  rcases hr T hT X with ⟨v, st₀, t, T', L, h0, X', hL, e1, e2, ⟨⟨r, u, hv, hp, hb⟩, hF⟩, st⟩ | ⟨q, st₀, t, T', L, E, ce, h0, X', hL, e1, e2, ⟨u, hp, hb, hF⟩, hce, hcv, hcl, st⟩
  · cases hv
    obtain ⟨k1, k2, k3⟩ := vx_keep h0 e1 hS hA hf hL hF
    obtain ⟨t2, a1, b1⟩ := kk r u t T'.heap (locs ++ L) e1.symm (by rw [← e2]; exact X'.warmed.alike) hp hb k1 k2 k3 T' rfl X'
    exact ⟨t2, st t2 a1, b1⟩
  · obtain ⟨k1, k2, k3⟩ := vx_keep h0 e1 hS hAX hf hL hF
    obtain ⟨t2, a1, b1⟩ := kx E ce q u t T'.heap (locs ++ L) e1.symm (by rw [← e2]; exact X'.warmed.alike) hp hb k1 k2 k3 (by rw [e1]; exact hce) hcv hcl T' rfl X'
    exact ⟨t2, st.trans a1, b1⟩
theorem vx_callv {S SX : Type} {post : S → Prop} {px : SX → Prop} {B : S → State → Prop} {BX : String → SX → State → Prop} {AX : Nat → Prop} (hr : vx_Run p l e R s m args below meth c H locs cells slots mc ms (F0 m pc ls st0) rest (va_Qv post B A1 a) (vx_X px BX AX) free) (hS : va_S A0 H0 H locs) (hA : ∀ q, q < H.size → A1 q → A0 q) (hf : ∀ q, free q → A0 q) (hAX : ∀ q, q < H.size → AX q → A0 q)
    (kx : ∀ (E : String) (ce : Cell) (q9 : Addr) (u : SX) (t : State) (H1 : Heap) (locs1 : List Loc), t.heap = H1 → s.vm.Alike t.vm → px u → BX E u t → H.size ≤ H1.size → (∀ q : Nat, q < H.size → ¬ AX q → H1[q]? = H[q]?) → va_S A0 H0 H1 locs1 → H1[q9]? = some ce → ce.vm = .none → s.vm.findClass E = some ce.cls → vx_W p l e R s m args below meth c H1 locs1 (cells + mc) (slots + ms) Q (F0 m pc ls rest) q9)
    (kk : ∀ (u : S) (t : State) (H1 : Heap) (locs1 : List Loc), t.heap = H1 → s.vm.Alike t.vm → post u → B u t → H.size ≤ H1.size → (∀ q : Nat, q < H.size → ¬ A1 q → H1[q]? = H[q]?) → va_S A0 H0 H1 locs1 → W p l e R s m args below meth c H1 locs1 (cells + mc) (slots + ms) Q (F0 m (pc + 3) ls (rest))) : W p l e R s m args below meth c H locs cells slots Q (F0 m pc ls st0) := by
  intro T hT X
  rcases hr T hT X with ⟨v, st₀, t, T', L, h0, X', hL, e1, e2, ⟨⟨u, hv, hp, hb⟩, hF⟩, st⟩ | ⟨q, st₀, t, T', L, E, ce, h0, X', hL, e1, e2, ⟨u, hp, hb, hF⟩, hce, hcv, hcl, st⟩
  · cases hv
    obtain ⟨k1, k2, k3⟩ := vx_keep h0 e1 hS hA hf hL hF
    obtain ⟨t2, a1, b1⟩ := kk u t T'.heap (locs ++ L) e1.symm (by rw [← e2]; exact X'.warmed.alike) hp hb k1 k2 k3 T' rfl X'
    exact ⟨t2, st t2 a1, b1⟩
  · obtain ⟨k1, k2, k3⟩ := vx_keep h0 e1 hS hAX hf hL hF
    obtain ⟨t2, a1, b1⟩ := kx E ce q u t T'.heap (locs ++ L) e1.symm (by rw [← e2]; exact X'.warmed.alike) hp hb k1 k2 k3 (by rw [e1]; exact hce) hcv hcl T' rfl X'
    exact ⟨t2, st.trans a1, b1⟩
/-- caught by the row x of this method's table; the rows ahead don't take it -/
theorem vx_catch {own name : String} {E : String} {ce : Cell} {q : Addr} (hown : s.vm.findClass own = some m.cls) (pre : List ExceptionTableEntry) (x : ExceptionTableEntry) (suf : List ExceptionTableEntry) (hsplit : c.exceptionTable.toList = pre ++ x :: suf)
    (hpass : ∀ z ∈ pre, covers z pc = false ∨ (z.catchType ≠ 0 ∧ ∃ nm : String, (Cond.classLink own z.catchType nm).before args s = true ∧ va_Nc E nm s)) (hx : covers x pc = true) (h0 : x.catchType ≠ 0)
    (hlink : (Cond.classLink own x.catchType name).before args s = true) (hcast : (Cond.castable E name).before args s = true) (hcell : H[q]? = some ce) (hv : ce.vm = .none) (hcl : s.vm.findClass E = some ce.cls)
    (kk : W p l e R s m args below meth c H locs cells slots Q (F0 m x.handlerPc ls [.ref q])) : vx_W p l e R s m args below meth c H locs cells slots Q (F0 m pc ls rest) q := by
  intro T hT X
  have hpl : e.platform.magicAccessors = ({} : Platform).magicAccessors := by rw [X.admits.platform]
  obtain ⟨c3, c4, hc3, hc4, hasg⟩ := Cond.castable_spec hcast
  cases Option.some.inj (hc3.symm.trans hcl)
  obtain ⟨c5, hc5, hcl5⟩ := Cond.classLink_spec hown hlink e.platform hpl
  cases Option.some.inj (hc4.symm.trans hc5)
  obtain ⟨vm', X', st⟩ := Jvm.Stand.thenCaughtThrough X q (g := F0 m pc ls rest) rfl (Steps.refl _) (by rw [hT]; exact hcell) (by rw [hv]; rfl) (by obtain ⟨k9, h9, -⟩ := Vm.findClass_spec hcl; exact ⟨k9, h9⟩) pre x suf hsplit
    (fun z hz => by
      rcases hpass z hz with h | ⟨hz0, nm, hl1, hn1⟩
      · exact Or.inl h
      · obtain ⟨c6, hc6, hcl6⟩ := Cond.classLink_spec hown hl1 e.platform hpl
        obtain ⟨a8, b8, h1, h2, h3⟩ := hn1
        cases Option.some.inj (h1.symm.trans hcl)
        cases Option.some.inj (h2.symm.trans hc6)
        exact Or.inr ⟨hz0, _, hcl6, h3⟩) hx (Or.inr ⟨h0, c4, hcl5, hasg⟩)
  obtain ⟨t, a1, b1⟩ := kk (T.setVm vm') hT X'
  exact ⟨t, st.trans a1, b1⟩
end Rows
section Ends
variable {p : Program} {l : Launch} {e : Env} {R : Room} {s : State} {m : MethodId} {args : Array Value} {below : List Frame} {meth : Method} {c : Code} {H : Heap} {locs : List Loc} {cells slots : Nat} {Q : State → Prop}
variable {mc ms : Nat} {free : Addr → Prop} {A0 A1 : Nat → Prop} {H0 : Heap} {a : Array Value} {ls : Array Slot} {st0 rest : List Value}
variable {Qc : Array Value → State → Outcome → State → Prop} {XC : String → State → State → Prop}
/-- what a body that may throw owes at its end -/
def vx_MQ (below : List Frame) (Qc : Array Value → State → Outcome → State → Prop) (XC : String → State → State → Prop) (a : Array Value) (s : State) (mc ms : Nat) (free : Addr → Prop) : State → Prop := fun t =>
  ∃ o, t.status = .running ∧ Ended t below o ∧ vx_Q Qc XC mc ms free a s o t
theorem vx_ret {g : JFrame} {mc ms : Nat} (k : W p l e R s m args below meth c H locs cells slots (MQ below Qc args s mc ms free) g) : W p l e R s m args below meth c H locs cells slots (vx_MQ below Qc XC args s mc ms free) g := by
  intro T hT X
  obtain ⟨t, a1, o, b1, b2, b3, b4⟩ := k T hT X
  exact ⟨t, a1, o, b1, b2, Or.inl ⟨b3, b4⟩⟩
/-- not caught here: it goes on to the caller -/
theorem vx_widen {g : JFrame} {q : Addr} {k n : Nat} (h1 : cells ≤ k) (h2 : slots ≤ n) (kk : vx_W p l e R s m args below meth c H locs k n Q g q) : vx_W p l e R s m args below meth c H locs cells slots Q g q := fun T hT X => kk T hT (stand_widen X h1 h2)
theorem vx_out {pc : Nat} {E : String} {ce : Cell} {q : Addr} {mc ms : Nat} (hout : ∀ x ∈ c.exceptionTable.toList, covers x pc = false) (hlocks : meth.locks = false) (hcell : H[q]? = some ce) (hv : ce.vm = .none) (hcl : s.vm.findClass E = some ce.cls)
    (hx : ∀ t : State, t.heap = H → s.vm.Alike t.vm → XC E s t) (hf : ∀ z ∈ locs, free z.base) (hc : cells ≤ mc) (hs : slots ≤ ms) :
    vx_W p l e R s m args below meth c H locs cells slots (vx_MQ below Qc XC args s mc ms free) (F0 m pc ls rest) q := by
  intro T hT X
  obtain ⟨st1, hrun, hend, hW, hsm⟩ := X.leaveThrown q (g := F0 m pc ls rest) rfl rfl rfl hout hlocks
  have hcell9 : (T.setFrames (.throwing q :: below)).heap[q]? = some ce := by
    show T.heap[q]? = some ce
    rw [hT]; exact hcell
  exact ⟨_, st1, .threw q, hrun, hend, Or.inr ⟨q, rfl, E, ce, locs, hx _ hT hW.alike, hcell9, hv, hcl, hW, hsm.mono hc hs, hf⟩⟩
theorem vx_frame {U : State} {k n : Nat} (h : s.sameButNew ({ U with vm := s.vm } : State) locs k n) : s.heap.size ≤ U.heap.size ∧ ∀ q : Nat, q < s.heap.size → (∀ z ∈ locs, z.base ≠ q) → U.heap[q]? = s.heap[q]? := by
  obtain ⟨-, h2, -, -, -, h6⟩ := h
  refine ⟨h2, fun q hq hz => ?_⟩
  obtain ⟨c9, e1, e2, e3, e4⟩ := h6 q _ (Array.getElem?_eq_getElem hq)
  have hs : c9.slots = (s.heap[q]).slots := Array.ext_getElem? fun i => e4 i fun hm => hz _ hm rfl
  have h9 : c9 = s.heap[q] := by
    rw [hs] at e2
    exact e2
  have e5 : U.heap[q]? = some c9 := e1
  rw [e5, h9, Array.getElem?_eq_getElem hq]
/-- the words of a throw but the four that speak of the heap -/
def vx_no (w : Cond) : Bool := decide (w ≠ .isRef (.static Bundle.tN "UNASSIGNED_STACK" Bundle.steD)) && decide (w ≠ .isRef (.static Bundle.tN "SUPPRESSED_SENTINEL" Bundle.listD)) && decide (w ≠ .laysStatic Bundle.tN "UNASSIGNED_STACK" Bundle.steD) && decide (w ≠ .laysStatic Bundle.tN "SUPPRESSED_SENTINEL" Bundle.listD)
def vx_at0 (own : String) (ic : Nat) (X : String) (names : List String) : List Cond := (Bundle.ownAtoms0 own ic X names).filter vx_no
def vx_atS (own : String) (ic : Nat) (X : String) (names : List String) : List Cond := (Bundle.ownAtoms own ic X names).filter vx_no
/-- a word that the tables alone decide, or a good one -/
def vx_ot (w : Cond) : Bool := w.onTables || goodWord w
theorem vx_ot_at {args a' : Array Value} {s U : State} {w : Cond} (hW : s.WarmedH U.vm) (hvm : s.vm = U.vm) (hg : vx_ot w = true) (h : w.before args s = true) : w.before a' U = true := by
  simp only [vx_ot, Bool.or_eq_true] at hg
  rcases hg with hg | hg
  · exact va_tabs hg hvm h
  · exact word_at hW (good_of_word hg) h
/-- a list's words: the good ones out of the method's own list, the others by premises of their own -/
theorem vx_hat {args : Array Value} {s : State} {L B : List Cond} (h1 : ∀ w ∈ L.filter goodWord, w.before args s = true) (h2 : ∀ w ∈ L.filter (fun w => !goodWord w), w ∈ B) (h3 : ∀ w ∈ B, w.before args s = true) : ∀ w ∈ L, w.before args s = true := by
  intro w hw
  by_cases g : goodWord w = true
  · exact h1 w (List.mem_filter.mpr ⟨hw, g⟩)
  · refine h3 w (h2 w (List.mem_filter.mpr ⟨hw, ?_⟩))
    show (!goodWord w) = true
    cases hgw : goodWord w
    · rfl
    · exact absurd hgw g
theorem vx_c {args : Array Value} {s : State} {w : Cond} {B : List Cond} (h : w.before args s = true) (t : ∀ w ∈ B, w.before args s = true) : ∀ w' ∈ w :: B, w'.before args s = true := fun w' h' => (List.mem_cons.mp h').elim (fun e => by rw [e]; exact h) (t w')
theorem vx_n {args : Array Value} {s : State} : ∀ w ∈ ([] : List Cond), w.before args s = true := fun _ h => nomatch h
theorem vx_own {args : Array Value} {s : State} {L : List Cond} (h1 : ∀ w ∈ L.filter vx_no, w.before args s = true)
    (hU : (Cond.isRef (.static Bundle.tN "UNASSIGNED_STACK" Bundle.steD)).before args s = true) (hN : (Cond.isRef (.static Bundle.tN "SUPPRESSED_SENTINEL" Bundle.listD)).before args s = true)
    (lU : (Cond.laysStatic Bundle.tN "UNASSIGNED_STACK" Bundle.steD).before args s = true) (lN : (Cond.laysStatic Bundle.tN "SUPPRESSED_SENTINEL" Bundle.listD).before args s = true) : ∀ w ∈ L, w.before args s = true := by
  intro w hw
  by_cases e1 : w = .isRef (.static Bundle.tN "UNASSIGNED_STACK" Bundle.steD)
  · rw [e1]; exact hU
  · by_cases e2 : w = .isRef (.static Bundle.tN "SUPPRESSED_SENTINEL" Bundle.listD)
    · rw [e2]; exact hN
    · by_cases e3 : w = .laysStatic Bundle.tN "UNASSIGNED_STACK" Bundle.steD
      · rw [e3]; exact lU
      · by_cases e4 : w = .laysStatic Bundle.tN "SUPPRESSED_SENTINEL" Bundle.listD
        · rw [e4]; exact lN
        · exact h1 w (List.mem_filter.mpr ⟨hw, by unfold vx_no; rw [decide_eq_true e1, decide_eq_true e2, decide_eq_true e3, decide_eq_true e4]; rfl⟩)
/-- where a static field lies, its class's statics cell in H -/
def vx_L (C n d : String) (A : Nat → Prop) (U : State) (H : Heap) : Prop := ∃ (c : ClassId) (k : Class) (i : Nat) (f : Field) (a : Nat) (cell : Cell), U.vm.findClass C = some c ∧ U.fieldFound? C n d = some (c, k, i, f) ∧ f.isStatic = true ∧ k.statics = some a ∧ H[a]? = some cell ∧ cell.vm.isStatics = true ∧ cell.cls = c ∧ f.slot < cell.slots.size ∧ k.staticTypes[f.slot]? = some f.type ∧ ¬ A a
theorem vx_L.moved {C n d : String} {A : Nat → Prop} {u U : State} {H : Heap} (hvm : u.vm.Alike U.vm) (h : vx_L C n d A u H) : vx_L C n d A U H := by
  obtain ⟨c, k, i, f, a, cell, h1, h2, h3, h4, h5, h6, h7, h8, h9, h10⟩ := h
  obtain ⟨k', hi', he⟩ := State.fieldFound?_setVm hvm h2
  exact ⟨c, k', i, f, a, cell, by rw [hvm.findClass]; exact h1, hi', h3, by rw [he]; exact h4, h5, h6, h7, h8, by rw [he]; exact h9, h10⟩
theorem vx_L.kept {C n d : String} {A : Nat → Prop} {U : State} {H H1 : Heap} (h : vx_L C n d A U H) (hq : ∀ a : Nat, a < H.size → ¬ A a → H1[a]? = H[a]?) : vx_L C n d A U H1 := by
  obtain ⟨c, k, i, f, a, cell, h1, h2, h3, h4, h5, h6, h7, h8, h9, h10⟩ := h
  exact ⟨c, k, i, f, a, cell, h1, h2, h3, h4, by rw [hq a (Array.getElem?_eq_some_iff.mp h5).1 h10]; exact h5, h6, h7, h8, h9, h10⟩
theorem vx_L.narrow {C n d : String} {A B : Nat → Prop} {U : State} {H : Heap} (h : vx_L C n d A U H) (hAB : ∀ q, B q → A q) : vx_L C n d B U H := by
  obtain ⟨c, k, i, f, a, cell, h1, h2, h3, h4, h5, h6, h7, h8, h9, h10⟩ := h
  exact ⟨c, k, i, f, a, cell, h1, h2, h3, h4, h5, h6, h7, h8, h9, fun z => h10 (hAB _ z)⟩
theorem vx_L.word {C n d : String} {A : Nat → Prop} {s : State} {args : Array Value} (h : vx_L C n d A s s.heap) : (Cond.laysStatic C n d).before args s = true := by
  obtain ⟨c, k, i, f, a, cell, h1, h2, h3, h4, h5, h6, h7, h8, h9, -⟩ := h
  show (Cond.laysStatic C n d).holds args s none s [] = true
  exact Cond.laysStatic_of h1 h2 h3 h4 h5 h6 h7 h8 h9
/-- .. and what it holds: null or some reference -/
def vx_Zq (C n d : String) (A : Nat → Prop) (U : State) (H : Heap) : Prop := va_Zq C n d A U H ∧ vx_L C n d A U H
theorem vx_Zq.moved {C n d : String} {A : Nat → Prop} {u U : State} {H : Heap} (hvm : u.vm.Alike U.vm) (h : vx_Zq C n d A u H) : vx_Zq C n d A U H := ⟨va_Zq.moved hvm h.1, vx_L.moved hvm h.2⟩
theorem vx_Zq.kept {C n d : String} {A : Nat → Prop} {U : State} {H H1 : Heap} (h : vx_Zq C n d A U H) (hq : ∀ a : Nat, a < H.size → ¬ A a → H1[a]? = H[a]?) : vx_Zq C n d A U H1 := ⟨va_Zq.kept h.1 hq, vx_L.kept h.2 hq⟩
theorem vx_Zq.narrow {C n d : String} {A B : Nat → Prop} {U : State} {H : Heap} (h : vx_Zq C n d A U H) (hAB : ∀ q, B q → A q) : vx_Zq C n d B U H := ⟨va_Zq.narrow h.1 hAB, vx_L.narrow h.2 hAB⟩
theorem vx_Zqof {args : Array Value} {s : State} {C n d : String} {A : Nat → Prop} (hl : (Cond.laysStatic C n d).before args s = true) (hini : (Cond.initialized C).before args s = true) (h : (Cond.isRef (.static C n d)).before args s = true) (hA : ∀ a : Nat, a < s.heap.size → ¬ A a) : vx_Zq C n d A s s.heap := by
  refine ⟨va_Zqof hl hini h hA, ?_⟩
  obtain ⟨c, k, i, f, a, cell, h1, h2, h3, h4, h5, h6, h7, h8, h9⟩ := Cond.laysStatic_spec hl
  exact ⟨c, k, i, f, a, cell, h1, h2, h3, h4, h5, h6, h7, h8, h9, hA a (Array.getElem?_eq_some_iff.mp h5).1⟩
theorem vx_isRef {C n d : String} {v : Value} {A : Nat → Prop} {s : State} {args : Array Value} (h : va_Z C n d v A s s.heap) (hv : v.isRef = true) : (Cond.isRef (.static C n d)).before args s = true := by
  obtain ⟨cf, kf, fi, f, a, cell, h1, h2, h3, h4, h5, h6, h7, -⟩ := h
  have he : (Term.static C n d).eval args s none [] s = some v := by
    simp [Term.eval, State.fieldNamed?, h1, h2, h4, h5, h6, h7]
  simp only [Cond.before, Cond.holds, Cond.value, he]
  cases v <;> simp_all [Value.isRef]
theorem vx_isRefq {C n d : String} {A : Nat → Prop} {s : State} {args : Array Value} (h : va_Zq C n d A s s.heap) : (Cond.isRef (.static C n d)).before args s = true := by
  rcases h with h | ⟨t, h⟩
  · exact vx_isRef h rfl
  · exact vx_isRef h rfl
/-- the same frame, seen from here: as if the method were called anew in this heap -/
theorem vx_rebase {T : State} (X : Stand p l e R s m args below meth c T locs cells slots) {R' : Room} (hf : R'.frames ≤ R.frames) (hl : R'.locals ≤ R.locals) (hc : cells + R'.cells ≤ R.cells) (hs : slots + R'.slots ≤ R.slots) :
    Stand p l e R' ((T.setVm s.vm).setFrames (.invoking m args :: below)) m args below meth c T [] 0 0 := by
  have htop : (T.setVm s.vm).topJava?.isSome := X.here.top
  have hF : ((T.setVm s.vm).setFrames (.invoking m args :: below)).frames = .invoking m args :: below := State.frames_setFrames _ (State.cur_lt_of_top htop)
  obtain ⟨g₀, hg0⟩ := Option.isSome_iff_exists.mp htop
  obtain ⟨r, hr⟩ := State.topJava?_eq_some.mp hg0
  have hl9 : e.platform.stackLimits (T.setVm s.vm).me = e.platform.stackLimits s.me := X.limits
  have hb9 : (T.setVm s.vm).me.stackBytes = s.me.stackBytes := X.bytes
  refine ⟨X.admits, X.cas, X.clock, hF, ?_, X.hears, X.method, X.code, X.here, X.tail, X.warmed, ?_, ?_, ?_⟩
  · have h := X.room
    have hU : ((T.setVm s.vm).setFrames (.invoking m args :: below)).localsInUse = s.localsInUse := by
      rw [State.localsInUse_invoking hF (meth := meth) (c := c) X.method X.code, State.localsInUse_invoking X.frames X.method X.code]
    simp only [State.hasRoom, Bool.and_eq_true, decide_eq_true_eq] at h ⊢
    obtain ⟨⟨⟨⟨h1, h2, h3, h4, h5, h6⟩, h7⟩, h8⟩, h9⟩ := h
    rw [X.frames, List.length_cons] at h2 h3
    have q1 := X.heapSize
    have q2 := X.used
    simp only [hF, hU, List.length_cons, State.stackLimits_setFrames, State.stackBytes_setFrames, hl9, hb9]
    refine ⟨⟨⟨⟨by omega, by omega, by omega, by omega, by omega, h6⟩, ?_⟩, ?_⟩, X.book⟩
    · show T.heap.size + R'.cells ≤ e.platform.maxCells
      omega
    · show T.slotsUsed + R'.slots ≤ e.platform.maxSlots
      omega
  · rw [State.stackLimits_setFrames]; rfl
  · rw [State.stackBytes_setFrames]; rfl
  · refine ⟨?_, Nat.le_refl _, Nat.le_refl _, ?_, ?_, fun a c9 h9 => ⟨c9, h9, rfl, rfl, fun _ _ => rfl⟩⟩
    · obtain ⟨t, ht, -⟩ := State.frames_cons hr
      show T.setVm s.vm = { ((T.setVm s.vm).setFrames (.invoking m args :: below)).setFrames (T.setVm s.vm).frames with heap := T.heap, slotsUsed := T.slotsUsed }
      rw [State.setFrames_setFrames, State.setFrames_self ht]
      rfl
    · show T.slotsUsed = T.slotsUsed + ((T.heap.toList.drop T.heap.size).map (·.slots.size)).sum
      rw [List.drop_eq_nil_of_le (Nat.le_of_eq Array.length_toList)]
      rfl
    · show ((T.heap.toList.drop T.heap.size).map (·.slots.size)).sum ≤ 0
      rw [List.drop_eq_nil_of_le (Nat.le_of_eq Array.length_toList)]
      exact Nat.le_refl _
/-- 'throw new E()': new; dup; invokespecial; athrow -/
theorem vx_throw0 {cc : ByteArray} {pc : Nat} (hexec : p.tables.exec = Jvm.exec) (hb : c.code = cc) (hl : l.stackTraces = false) {own cls : String} {names : List String} {ik ic mc ms : Nat} {A : Nat → Prop}
    (hown : s.vm.findClass own = some m.cls) (hcls : Bundle.fit cls = true) (hnames : ∀ n ∈ names, Bundle.fit n = true)
    (hk : (Cond.classLink own ik cls).before args s = true) (hini : (Cond.initialized cls).before args s = true) (hat : ∀ w ∈ vx_at0 own ic cls names, w.before args s = true)
    (hgood : ∀ w ∈ Cond.classLink own ik cls :: Cond.initialized cls :: vx_at0 own ic cls names, vx_ot w = true)
    (hU : vx_Zq Bundle.tN "UNASSIGNED_STACK" Bundle.steD A s s.heap) (hN : vx_Zq Bundle.tN "SUPPRESSED_SENTINEL" Bundle.listD A s s.heap) (hS : va_S A s.heap H locs) (hsize : ls.size = c.maxLocals)
    (d0 : decode cc pc = .ok (.new ik, 3)) (d3 : decode cc (pc + 3) = .ok (.dup, 1)) (d4 : decode cc (pc + 4) = .ok (.invokespecial ic, 3)) (d7 : decode cc (pc + 7) = .ok (.athrow, 1))
    (hout : ∀ x ∈ c.exceptionTable.toList, covers x (pc + 7) = false)
    (hRframes : names.length + 3 < R.frames) (hRlocals : (rest.map fun v => v.category).sum + (13 * (names.length + 1) + 42) ≤ R.locals) (hRcells : cells + 1 ≤ R.cells) (hRslots : slots + 6 ≤ R.slots) (hlocks : meth.locks = false)
    (hx : ∀ t : State, s.vm.Alike t.vm → H.size ≤ t.heap.size → (∀ q : Nat, q < H.size → t.heap[q]? = H[q]?) → XC cls s t)
    (hf : ∀ z ∈ locs, free z.base) (hc : cells + 1 ≤ mc) (hs : slots + 6 ≤ ms) :
    W p l e R s m args below meth c H locs cells slots (vx_MQ below Qc XC args s mc ms free) (F0 m pc ls rest) := by
  intro T hT X
  have htr : e.platform.stackTraces = false := (show e.platform.stackTraces = l.stackTraces by rw [X.admits.platform]).trans hl
  have Y := vx_rebase X (R' := { frames := R.frames, locals := R.locals, cells := 1, slots := 6 }) (Nat.le_refl _) (Nat.le_refl _) hRcells hRslots
  obtain ⟨s', hA⟩ : ∃ z, z = (T.setVm s.vm).setFrames (.invoking m args :: below) := ⟨_, rfl⟩
  rw [← hA] at Y
  have hvm : s'.vm = s.vm := by rw [hA]; rfl
  have hhp : s'.heap = H := by rw [hA]; exact hT
  have hW0 : s.WarmedH s'.vm := by rw [hvm]; exact State.WarmedH.refl s
  have hat' : ∀ w ∈ vx_at0 own ic cls names, w.before args s' = true := fun w hw => vx_ot_at hW0 hvm.symm (hgood w (List.mem_cons_of_mem _ (List.mem_cons_of_mem _ hw))) (hat w hw)
  have hk' : (Cond.classLink own ik cls).before args s' = true := vx_ot_at hW0 hvm.symm (hgood _ List.mem_cons_self) hk
  have hini' : (Cond.initialized cls).before args s' = true := vx_ot_at hW0 hvm.symm (hgood _ (List.mem_cons_of_mem _ List.mem_cons_self)) hini
  have hU' : vx_Zq Bundle.tN "UNASSIGNED_STACK" Bundle.steD A s' s'.heap := by rw [hhp]; exact vx_Zq.moved hW0.alike (hU.kept hS.2.1)
  have hN' : vx_Zq Bundle.tN "SUPPRESSED_SENTINEL" Bundle.listD A s' s'.heap := by rw [hhp]; exact vx_Zq.moved hW0.alike (hN.kept hS.2.1)
  have h : ∀ w ∈ Bundle.ownAtoms0 own ic cls names, w.before args s' = true := vx_own hat' (vx_isRefq hU'.1) (vx_isRefq hN'.1) hU'.2.word hN'.2.word
  have hown' : s'.vm.findClass own = some m.cls := by rw [hvm]; exact hown
  have hins : (Cond.instantiable cls 6).before args s' = true := h _ (by simp [Bundle.ownAtoms0])
  obtain ⟨vm₁, cX, kX, hfX, hkX, -, -, X₁, st1⟩ := Y.newCold hexec (own := own) (C := cls) (index := ik) (n := 6) hown' hk' hins hini'
    (g := F0 m pc ls rest) rfl (by rw [hb]; exact d0) (Nat.le_refl _) (Nat.le_refl _)
  generalize hT1 : (T.setVm vm₁).pushCell { cls := cX, slots := kX.instanceTypes.map defaultValue, vm := .none } = T1 at X₁ st1
  have hcat : (Value.ref T.heap.size).category = 1 := rfl
  have hcellA : T1.heap[T.heap.size]? = some (freshCell cX kX) := by rw [← hT1]; exact State.heap_pushCell_size _ _
  have d3' : decode c.code (pc + 3) = .ok (.dup, 1) := by rw [hb]; exact d3
  obtain ⟨U, hsteps, hrun, hend, hW, hsame, ce, hce, hO⟩ := X₁.ctorThrow0 hexec htr (own := own) (cls := cls) (names := names) (ic := ic) hown' hcls hnames h (fun x hx => nomatch hx) hfX hkX hcellA (by rw [hhp, hT]; exact Nat.le_refl _)
    (g := { method := m, pc := pc + 4, locals := ls, stack := .ref T.heap.size :: .ref T.heap.size :: rest, locked := none }) rfl hsize rfl rfl (rest := rest) rfl
    (by rw [hb]; exact d4) (by rw [hb]; exact d7) hout hRframes (by simp only [List.map_cons, List.sum_cons, hcat]; omega) hlocks
  obtain ⟨f1, f2⟩ := vx_frame hsame
  rw [hhp] at f1 f2
  have hWs : s.WarmedH U.vm := State.WarmedH.trans hW0 hW
  have hcl : s.vm.findClass cls = some ce.cls := by
    have h9 := hO.cls
    rw [hvm] at h9
    exact h9
  have hall : s.sameButNew ({ U with vm := s.vm } : State) locs mc ms := by
    subst hA
    obtain ⟨e1, e2⟩ := hsame
    rw [State.setFrames_setFrames] at e1
    have h2 : (T.setVm s.vm).sameButNew ({ U with vm := s.vm } : State) [] (0 + 1) (0 + 6) := ⟨e1, e2⟩
    have h3 := X.same.trans h2
    rw [List.append_nil] at h3
    exact h3.mono hc hs
  refine ⟨U, ?_, .threw T.heap.size, hrun, hend, Or.inr ⟨T.heap.size, rfl, cls, ce, locs, hx U hWs.alike f1 (fun q hq => f2 q hq (fun z hz => nomatch hz)), hce, hO.vm, hcl, hWs, hall, hf⟩⟩
  refine st1 _ ?_
  show Steps p.tables e below (T1.setTop { method := m, pc := pc + 3, locals := ls, stack := .ref T.heap.size :: rest, locked := none }) _
  jvm_step X₁.here [X₁.here.top, hexec, d3', Value.category]
  exact hsteps
/-- 'throw new E("text")': new; dup; ldc; invokespecial; athrow -/
theorem vx_throwS {cc : ByteArray} {pc : Nat} (hexec : p.tables.exec = Jvm.exec) (hb : c.code = cc) (hl : l.stackTraces = false) {own cls text : String} {names : List String} {ik is ic mc ms sa : Nat} {A : Nat → Prop}
    (hown : s.vm.findClass own = some m.cls) (hcls : Bundle.fit cls = true) (hnames : ∀ n ∈ names, Bundle.fit n = true)
    (hk : (Cond.classLink own ik cls).before args s = true) (hini : (Cond.initialized cls).before args s = true) (hstr : vk_R own is text sa s) (hat : ∀ w ∈ vx_atS own ic cls names, w.before args s = true)
    (hgood : ∀ w ∈ Cond.classLink own ik cls :: Cond.initialized cls :: vx_atS own ic cls names, vx_ot w = true)
    (hU : vx_Zq Bundle.tN "UNASSIGNED_STACK" Bundle.steD A s s.heap) (hN : vx_Zq Bundle.tN "SUPPRESSED_SENTINEL" Bundle.listD A s s.heap) (hS : va_S A s.heap H locs) (hsize : ls.size = c.maxLocals)
    (d0 : decode cc pc = .ok (.new ik, 3)) (d3 : decode cc (pc + 3) = .ok (.dup, 1)) (d4 : decode cc (pc + 4) = .ok (.ldc is, 2)) (d6 : decode cc (pc + 6) = .ok (.invokespecial ic, 3)) (d9 : decode cc (pc + 9) = .ok (.athrow, 1))
    (hout : ∀ x ∈ c.exceptionTable.toList, covers x (pc + 9) = false)
    (hRframes : names.length + 3 < R.frames) (hRlocals : (rest.map fun v => v.category).sum + (13 * (names.length + 1) + 43) ≤ R.locals) (hRcells : cells + 1 ≤ R.cells) (hRslots : slots + 6 ≤ R.slots) (hlocks : meth.locks = false)
    (hx : ∀ t : State, s.vm.Alike t.vm → H.size ≤ t.heap.size → (∀ q : Nat, q < H.size → t.heap[q]? = H[q]?) → XC cls s t)
    (hf : ∀ z ∈ locs, free z.base) (hc : cells + 1 ≤ mc) (hs : slots + 6 ≤ ms) :
    W p l e R s m args below meth c H locs cells slots (vx_MQ below Qc XC args s mc ms free) (F0 m pc ls rest) := by
  intro T hT X
  have htr : e.platform.stackTraces = false := (show e.platform.stackTraces = l.stackTraces by rw [X.admits.platform]).trans hl
  have Y := vx_rebase X (R' := { frames := R.frames, locals := R.locals, cells := 1, slots := 6 }) (Nat.le_refl _) (Nat.le_refl _) hRcells hRslots
  obtain ⟨s', hA⟩ : ∃ z, z = (T.setVm s.vm).setFrames (.invoking m args :: below) := ⟨_, rfl⟩
  rw [← hA] at Y
  have hvm : s'.vm = s.vm := by rw [hA]; rfl
  have hhp : s'.heap = H := by rw [hA]; exact hT
  have hW0 : s.WarmedH s'.vm := by rw [hvm]; exact State.WarmedH.refl s
  have hat' : ∀ w ∈ vx_atS own ic cls names, w.before args s' = true := fun w hw => vx_ot_at hW0 hvm.symm (hgood w (List.mem_cons_of_mem _ (List.mem_cons_of_mem _ hw))) (hat w hw)
  have hk' : (Cond.classLink own ik cls).before args s' = true := vx_ot_at hW0 hvm.symm (hgood _ List.mem_cons_self) hk
  have hini' : (Cond.initialized cls).before args s' = true := vx_ot_at hW0 hvm.symm (hgood _ (List.mem_cons_of_mem _ List.mem_cons_self)) hini
  have hU' : vx_Zq Bundle.tN "UNASSIGNED_STACK" Bundle.steD A s' s'.heap := by rw [hhp]; exact vx_Zq.moved hW0.alike (hU.kept hS.2.1)
  have hN' : vx_Zq Bundle.tN "SUPPRESSED_SENTINEL" Bundle.listD A s' s'.heap := by rw [hhp]; exact vx_Zq.moved hW0.alike (hN.kept hS.2.1)
  have h : ∀ w ∈ Bundle.ownAtoms own ic cls names, w.before args s' = true := vx_own hat' (vx_isRefq hU'.1) (vx_isRefq hN'.1) hU'.2.word hN'.2.word
  have hown' : s'.vm.findClass own = some m.cls := by rw [hvm]; exact hown
  have hins : (Cond.instantiable cls 6).before args s' = true := h _ (by simp [Bundle.ownAtoms])
  obtain ⟨vm₁, cX, kX, hfX, hkX, -, -, X₁, st1⟩ := Y.newCold hexec (own := own) (C := cls) (index := ik) (n := 6) hown' hk' hins hini'
    (g := F0 m pc ls rest) rfl (by rw [hb]; exact d0) (Nat.le_refl _) (Nat.le_refl _)
  generalize hT1 : (T.setVm vm₁).pushCell { cls := cX, slots := kX.instanceTypes.map defaultValue, vm := .none } = T1 at X₁ st1
  have hcat : (Value.ref T.heap.size).category = 1 := rfl
  have hcellA : T1.heap[T.heap.size]? = some (freshCell cX kX) := by rw [← hT1]; exact State.heap_pushCell_size _ _
  have d3' : decode c.code (pc + 3) = .ok (.dup, 1) := by rw [hb]; exact d3
  have d4' : decode c.code (pc + 4) = .ok (.ldc is, 2) := by rw [hb]; exact d4
  have hstr' : vk_R own is text sa s' := vk_R.warm hW0 hstr
  obtain ⟨U, hsteps, hrun, hend, hW, hsame, ce, hce, hO⟩ := X₁.ctorThrowS hexec htr (own := own) (cls := cls) (names := names) (ic := ic) hown' hcls hnames h (fun x hx => nomatch hx) hfX hkX hcellA (by rw [hhp, hT]; exact Nat.le_refl _) (msg := .ref sa) rfl
    (g := { method := m, pc := pc + 6, locals := ls, stack := .ref sa :: .ref T.heap.size :: .ref T.heap.size :: rest, locked := none }) rfl hsize rfl rfl (rest := rest) rfl
    (by rw [hb]; exact d6) (by rw [hb]; exact d9) hout hRframes (by simp only [List.map_cons, List.sum_cons, hcat]; omega) hlocks
  obtain ⟨f1, f2⟩ := vx_frame hsame
  rw [hhp] at f1 f2
  have hWs : s.WarmedH U.vm := State.WarmedH.trans hW0 hW
  have hcl : s.vm.findClass cls = some ce.cls := by
    have h9 := hO.cls
    rw [hvm] at h9
    exact h9
  have hall : s.sameButNew ({ U with vm := s.vm } : State) locs mc ms := by
    subst hA
    obtain ⟨e1, e2⟩ := hsame
    rw [State.setFrames_setFrames] at e1
    have h2 : (T.setVm s.vm).sameButNew ({ U with vm := s.vm } : State) [] (0 + 1) (0 + 6) := ⟨e1, e2⟩
    have h3 := X.same.trans h2
    rw [List.append_nil] at h3
    exact h3.mono hc hs
  refine ⟨U, ?_, .threw T.heap.size, hrun, hend, Or.inr ⟨T.heap.size, rfl, cls, ce, locs, hx U hWs.alike f1 (fun q hq => f2 q hq (fun z hz => nomatch hz)), hce, hO.vm, hcl, hWs, hall, hf⟩⟩
  refine st1 _ ?_
  show Steps p.tables e below (T1.setTop { method := m, pc := pc + 3, locals := ls, stack := .ref T.heap.size :: rest, locked := none }) _
  jvm_step X₁.here [X₁.here.top, hexec, d3', Value.category]
  exact X₁.ldcString hexec (own := own) (text := text) (index := is) (a := sa) hown' hstr'.1 hstr'.2
    (g := { method := m, pc := pc + 4, locals := ls, stack := .ref T.heap.size :: .ref T.heap.size :: rest, locked := none }) rfl d4' _ hsteps
/-- 'throw new E("text")', the text by a wide index -/
theorem vx_throwSW {cc : ByteArray} {pc : Nat} (hexec : p.tables.exec = Jvm.exec) (hb : c.code = cc) (hl : l.stackTraces = false) {own cls text : String} {names : List String} {ik is ic mc ms sa : Nat} {A : Nat → Prop}
    (hown : s.vm.findClass own = some m.cls) (hcls : Bundle.fit cls = true) (hnames : ∀ n ∈ names, Bundle.fit n = true)
    (hk : (Cond.classLink own ik cls).before args s = true) (hini : (Cond.initialized cls).before args s = true) (hstr : vk_R own is text sa s) (hat : ∀ w ∈ vx_atS own ic cls names, w.before args s = true)
    (hgood : ∀ w ∈ Cond.classLink own ik cls :: Cond.initialized cls :: vx_atS own ic cls names, vx_ot w = true)
    (hU : vx_Zq Bundle.tN "UNASSIGNED_STACK" Bundle.steD A s s.heap) (hN : vx_Zq Bundle.tN "SUPPRESSED_SENTINEL" Bundle.listD A s s.heap) (hS : va_S A s.heap H locs) (hsize : ls.size = c.maxLocals)
    (d0 : decode cc pc = .ok (.new ik, 3)) (d3 : decode cc (pc + 3) = .ok (.dup, 1)) (d4 : decode cc (pc + 4) = .ok (.ldc_w is, 3)) (d7 : decode cc (pc + 7) = .ok (.invokespecial ic, 3)) (d10 : decode cc (pc + 10) = .ok (.athrow, 1))
    (hout : ∀ x ∈ c.exceptionTable.toList, covers x (pc + 10) = false)
    (hRframes : names.length + 3 < R.frames) (hRlocals : (rest.map fun v => v.category).sum + (13 * (names.length + 1) + 43) ≤ R.locals) (hRcells : cells + 1 ≤ R.cells) (hRslots : slots + 6 ≤ R.slots) (hlocks : meth.locks = false)
    (hx : ∀ t : State, s.vm.Alike t.vm → H.size ≤ t.heap.size → (∀ q : Nat, q < H.size → t.heap[q]? = H[q]?) → XC cls s t)
    (hf : ∀ z ∈ locs, free z.base) (hc : cells + 1 ≤ mc) (hs : slots + 6 ≤ ms) :
    W p l e R s m args below meth c H locs cells slots (vx_MQ below Qc XC args s mc ms free) (F0 m pc ls rest) := by
  intro T hT X
  have htr : e.platform.stackTraces = false := (show e.platform.stackTraces = l.stackTraces by rw [X.admits.platform]).trans hl
  have Y := vx_rebase X (R' := { frames := R.frames, locals := R.locals, cells := 1, slots := 6 }) (Nat.le_refl _) (Nat.le_refl _) hRcells hRslots
  obtain ⟨s', hA⟩ : ∃ z, z = (T.setVm s.vm).setFrames (.invoking m args :: below) := ⟨_, rfl⟩
  rw [← hA] at Y
  have hvm : s'.vm = s.vm := by rw [hA]; rfl
  have hhp : s'.heap = H := by rw [hA]; exact hT
  have hW0 : s.WarmedH s'.vm := by rw [hvm]; exact State.WarmedH.refl s
  have hat' : ∀ w ∈ vx_atS own ic cls names, w.before args s' = true := fun w hw => vx_ot_at hW0 hvm.symm (hgood w (List.mem_cons_of_mem _ (List.mem_cons_of_mem _ hw))) (hat w hw)
  have hk' : (Cond.classLink own ik cls).before args s' = true := vx_ot_at hW0 hvm.symm (hgood _ List.mem_cons_self) hk
  have hini' : (Cond.initialized cls).before args s' = true := vx_ot_at hW0 hvm.symm (hgood _ (List.mem_cons_of_mem _ List.mem_cons_self)) hini
  have hU' : vx_Zq Bundle.tN "UNASSIGNED_STACK" Bundle.steD A s' s'.heap := by rw [hhp]; exact vx_Zq.moved hW0.alike (hU.kept hS.2.1)
  have hN' : vx_Zq Bundle.tN "SUPPRESSED_SENTINEL" Bundle.listD A s' s'.heap := by rw [hhp]; exact vx_Zq.moved hW0.alike (hN.kept hS.2.1)
  have h : ∀ w ∈ Bundle.ownAtoms own ic cls names, w.before args s' = true := vx_own hat' (vx_isRefq hU'.1) (vx_isRefq hN'.1) hU'.2.word hN'.2.word
  have hown' : s'.vm.findClass own = some m.cls := by rw [hvm]; exact hown
  have hins : (Cond.instantiable cls 6).before args s' = true := h _ (by simp [Bundle.ownAtoms])
  obtain ⟨vm₁, cX, kX, hfX, hkX, -, -, X₁, st1⟩ := Y.newCold hexec (own := own) (C := cls) (index := ik) (n := 6) hown' hk' hins hini'
    (g := F0 m pc ls rest) rfl (by rw [hb]; exact d0) (Nat.le_refl _) (Nat.le_refl _)
  generalize hT1 : (T.setVm vm₁).pushCell { cls := cX, slots := kX.instanceTypes.map defaultValue, vm := .none } = T1 at X₁ st1
  have hcat : (Value.ref T.heap.size).category = 1 := rfl
  have hcellA : T1.heap[T.heap.size]? = some (freshCell cX kX) := by rw [← hT1]; exact State.heap_pushCell_size _ _
  have d3' : decode c.code (pc + 3) = .ok (.dup, 1) := by rw [hb]; exact d3
  have d4' : decode c.code (pc + 4) = .ok (.ldc_w is, 3) := by rw [hb]; exact d4
  have hstr' : vk_R own is text sa s' := vk_R.warm hW0 hstr
  obtain ⟨U, hsteps, hrun, hend, hW, hsame, ce, hce, hO⟩ := X₁.ctorThrowS hexec htr (own := own) (cls := cls) (names := names) (ic := ic) hown' hcls hnames h (fun x hx => nomatch hx) hfX hkX hcellA (by rw [hhp, hT]; exact Nat.le_refl _) (msg := .ref sa) rfl
    (g := { method := m, pc := pc + 7, locals := ls, stack := .ref sa :: .ref T.heap.size :: .ref T.heap.size :: rest, locked := none }) rfl hsize rfl rfl (rest := rest) rfl
    (by rw [hb]; exact d7) (by rw [hb]; exact d10) hout hRframes (by simp only [List.map_cons, List.sum_cons, hcat]; omega) hlocks
  obtain ⟨f1, f2⟩ := vx_frame hsame
  rw [hhp] at f1 f2
  have hWs : s.WarmedH U.vm := State.WarmedH.trans hW0 hW
  have hcl : s.vm.findClass cls = some ce.cls := by
    have h9 := hO.cls
    rw [hvm] at h9
    exact h9
  have hall : s.sameButNew ({ U with vm := s.vm } : State) locs mc ms := by
    subst hA
    obtain ⟨e1, e2⟩ := hsame
    rw [State.setFrames_setFrames] at e1
    have h2 : (T.setVm s.vm).sameButNew ({ U with vm := s.vm } : State) [] (0 + 1) (0 + 6) := ⟨e1, e2⟩
    have h3 := X.same.trans h2
    rw [List.append_nil] at h3
    exact h3.mono hc hs
  refine ⟨U, ?_, .threw T.heap.size, hrun, hend, Or.inr ⟨T.heap.size, rfl, cls, ce, locs, hx U hWs.alike f1 (fun q hq => f2 q hq (fun z hz => nomatch hz)), hce, hO.vm, hcl, hWs, hall, hf⟩⟩
  refine st1 _ ?_
  show Steps p.tables e below (T1.setTop { method := m, pc := pc + 3, locals := ls, stack := .ref T.heap.size :: rest, locked := none }) _
  jvm_step X₁.here [X₁.here.top, hexec, d3', Value.category]
  exact X₁.ldcStringW hexec (own := own) (text := text) (index := is) (a := sa) hown' hstr'.1 hstr'.2
    (g := { method := m, pc := pc + 4, locals := ls, stack := .ref T.heap.size :: .ref T.heap.size :: rest, locked := none }) rfl d4' _ hsteps
end Ends
section Bodies
variable {l : Launch}
theorem vx_ofW {y : MethodName} {ws ws' : List Cond} {rm : Room} {Pc : Array Value → State → Prop} {Qc : Array Value → State → Outcome → State → Prop} {XC : String → State → State → Prop} {mc ms : Nat} {free : Addr → Prop} {cc : ByteArray} {maxL : Nat} {ret : Option FieldType}
    (hy : plainName y.cls = true) (hw : ws = Cond.code y cc maxL ret :: ws')
    (body : ∀ p e s m args below meth c s₁, BodyLoose p l y (headSpec ws rm) cc maxL ret e s m args below meth c s₁ → c.maxLocals = maxL → (∀ x ∈ c.exceptionTable.toList, False) → Pc args s →
      W p l e (headSpec ws rm).room s m args below meth c s.heap [] 0 0 (vx_MQ below Qc XC args s mc ms free) (entryFrame m args maxL)) : vx_Met l y ws rm Pc Qc XC mc ms free := by
  refine MetFree.of_bodyS (code := cc) (maxLocals := maxL) (ret := ret) hy ?_ ?_
  · intro args s m h hn
    obtain ⟨meth, c, h1, h2, h3, h4, h5, h6, -, -⟩ := Cond.code_spec hn (atoms_spec (ws := ws) h _ (by rw [hw]; exact List.mem_cons_self))
    exact ⟨meth, c, h1, h2, h3, h4, h5, h6⟩
  · intro p e s m args below meth c s₁ B hml hP _
    have hh0 : s₁.heap = s.heap := by rw [B.state]; rfl
    have ht : ∀ x ∈ c.exceptionTable.toList, False := by
      obtain ⟨meth9, c9, h1, h2, -, -, -, -, h7, -⟩ := Cond.code_spec B.named (atoms_spec (ws := ws) B.pre _ (by rw [hw]; exact List.mem_cons_self))
      cases Option.some.inj (h1.symm.trans B.method)
      cases Option.some.inj (h2.symm.trans (Stand.of_body B).code)
      intro x hx
      rw [Array.isEmpty_iff.mp h7] at hx
      cases hx
    obtain ⟨t, a1, o, b1, b2, b3⟩ := body p e s m args below meth c s₁ B hml ht hP s₁ hh0 (Stand.of_body B)
    exact ⟨t, o, a1, b1, b2, b3⟩
/-- the table of a body with handlers -/
theorem vx_table {p : Program} {x y : MethodName} {S : Spec} {cc bytes : ByteArray} {maxL maxL' : Nat} {ret ret' : Option FieldType} {e : Env} {s s₁ : State} {m : MethodId} {args : Array Value} {below : List Frame} {meth : Method} {c : Code} {hh : List (Nat × Nat × Nat × Nat)}
    (B : BodyLoose p l y S cc maxL ret e s m args below meth c s₁) (h : (Cond.codeWith y bytes maxL' ret' hh).before args s = true) : c.exceptionTable.toList = tableOf hh := by
  obtain ⟨m9, meth9, c9, hn9, h1, h2, -, -, h6, -⟩ := Cond.codeWith_spec h
  cases Option.some.inj (hn9.symm.trans B.named)
  cases Option.some.inj (h1.symm.trans B.method)
  cases Option.some.inj (h2.symm.trans (Stand.of_body B).code)
  rw [← h6, table_eq]
end Bodies
end VXA
/-! ===== END ===== -/
/-! ===== BEGIN a static call of a method with an exception table ===== -/
section VXS
variable {p : Program} {l : Launch} {e : Env} {R : Room} {s : State} {m : MethodId} {args : Array Value} {below : List Frame} {meth : Method} {c : Code} {T : State} {H : Heap} {locs : List Loc} {cells slots : Nat}
abbrev vx_CSW (R : Room) (s : State) (args : Array Value) (own : String) (index : Nat) (y : MethodName) (bytes : ByteArray) (maxL : Nat) (ret : Option FieldType) (hh : List (Nat × Nat × Nat × Nat)) (ws : List Cond) (rm : Room) (mc ms n : Nat) : Prop :=
  (rm.cells = mc ∧ rm.slots = ms ∧ rm.frames + 1 ≤ R.frames ∧ 8 + (maxL + 11) + rm.locals ≤ R.locals ∧ (∀ w ∈ ws, ∀ (a' : Array Value) (U : State), s.WarmedH U.vm → w.before a' U = true) ∧ Cond.codeWith y bytes maxL ret hh ∈ ws) ∧
  (Cond.codeWith y bytes maxL ret hh).before args s = true ∧ (Cond.initialized y.cls).before args s = true ∧ (y.cls ≠ "java/lang/invoke/MethodHandle" ∧ y.cls ≠ "java/lang/invoke/VarHandle") ∧
  (∀ sig, parseMethodDescriptor y.desc = some sig → n = sig.parameters.length) ∧ (Cond.methodLink own index y).before args s = true ∧ (Cond.static y).before args s = true
theorem vx_cwSW {own : String} {index maxL mc ms : Nat} {y : MethodName} {bytes : ByteArray} {ret : Option FieldType} {hh : List (Nat × Nat × Nat × Nat)} {Ts ws ws' : List Cond} {rm : Room} (n : Nat) (ht : ∀ w ∈ Ts, w.before args s = true) (hT : GoodIn Ts (va_wsS own index y ws)) (hw : ws = Cond.codeWith y bytes maxL ret hh :: ws') (hrc : rm.cells = mc) (hrs : rm.slots = ms)
    (hd : y.cls ≠ "java/lang/invoke/MethodHandle" ∧ y.cls ≠ "java/lang/invoke/VarHandle" ∧ (parseMethodDescriptor y.desc).map (fun d => d.parameters.length) = some n) (hR : rm.frames + 1 ≤ R.frames ∧ 8 + (maxL + 11) + rm.locals ≤ R.locals) :
    vx_CSW R s args own index y bytes maxL ret hh ws rm mc ms n := by
  have ok : ∀ w ∈ va_wsS own index y ws, w.before args s = true := fun w h => ht w (hT w h).1
  have hG : GoodIn Ts ws := fun w h => hT w (by unfold va_wsS; exact List.mem_append_right _ h)
  have hc : Cond.codeWith y bytes maxL ret hh ∈ ws := by rw [hw]; exact List.mem_cons_self
  refine ⟨⟨hrc, hrs, hR.1, hR.2, pay_in ht hG, hc⟩, ht _ (hG _ hc).1, ok _ (by simp [va_wsS]), ⟨hd.1, hd.2.1⟩, fun sig h => ?_, ok _ (by simp [va_wsS]), ok _ (by simp [va_wsS])⟩
  have h2 := hd.2.2
  rw [h] at h2
  exact (Option.some.inj h2).symm
theorem vx_callSW (X : Stand p l e R s m args below meth c T locs cells slots) (hexec : p.tables.exec = Jvm.exec) {own : String} {index : Nat} {y : MethodName} {bytes : ByteArray} {maxL : Nat} {ret : Option FieldType} {hh : List (Nat × Nat × Nat × Nat)}
    (hown : s.vm.findClass own = some m.cls) (hlink : (Cond.methodLink own index y).before args s = true) (hstat : (Cond.static y).before args s = true) (hinit : (Cond.initialized y.cls).before args s = true)
    (hcode : (Cond.codeWith y bytes maxL ret hh).before args s = true) (hy : y.cls ≠ "java/lang/invoke/MethodHandle" ∧ y.cls ≠ "java/lang/invoke/VarHandle")
    {W9 : Nat} {Pre : Pt → Array Value → Prop} {Post : Pt → Array Value → Option Value → Pt → Prop} (hK : Back l R p e below s args y 3 W9 Pre Post)
    {g : JFrame} (hg : g.method = m) (hsize : g.locals.size = c.maxLocals) {argsL rest : List Value} (hlen : ∀ sig, parseMethodDescriptor y.desc = some sig → argsL.length = sig.parameters.length)
    (hstack : g.stack = argsL.reverse ++ rest) (hW : 2 * g.monitorRoom + (rest.map fun v => v.category).sum ≤ W9) (hdg : decode c.code g.pc = .ok (.invokestatic index, 3))
    (hpre : ∀ vm₁, s.WarmedH vm₁ → Pre ⟨T.setVm vm₁, locs, cells, slots⟩ argsL.toArray) :
    ∃ (v : Option Value) (vm₁ : Vm) (B : Pt), s.WarmedH vm₁ ∧ Stand p l e R s m args below meth c B.U B.locs B.cells B.slots ∧ Post ⟨T.setVm vm₁, locs, cells, slots⟩ argsL.toArray v B ∧
      ∀ target, Steps p.tables e below (B.U.setTop { g with pc := g.pc + 3, stack := v.toList ++ rest }) target → Steps p.tables e below (T.setTop g) target := by
  obtain ⟨mk, methM, cM, hnamed, hmethM, -, -, -, -, -, -, hsigM⟩ := Cond.codeWith_spec hcode
  have hstatic : methM.isStatic = true := Cond.static_spec hnamed hmethM hstat
  obtain ⟨kP, hkP, -⟩ := className_of_methodNamed hnamed
  have hinitP : kP.init = .initialized := Cond.initialized_spec (findClass_of_methodNamed hnamed) hkP hinit
  obtain ⟨vm₁, X₁, hstep₁⟩ := X.invokestatic hexec hown hlink hnamed hmethM hstatic hkP hinitP hy (g := g) hg (argsL := argsL) (rest := rest) (hlen _ hsigM) hstack hdg
  obtain ⟨v, B, X', hpost, hsteps⟩ := hK m meth c ⟨T.setVm vm₁, locs, cells, slots⟩ { g with stack := rest } (.invokestatic index) mk argsL.toArray X₁ hg hsize hdg hW (X₁.named hnamed) (hpre vm₁ X₁.warmed)
  exact ⟨v, vm₁, B, X₁.warmed, X', hpost, fun target h => hstep₁ _ fun acts => by rw [doInvoke_state]; exact hsteps.trans h⟩
theorem vx_runSW {y : MethodName} {bytes cc : ByteArray} {maxL nL mc ms n index : Nat} {ret : Option FieldType} {hh : List (Nat × Nat × Nat × Nat)} {ws : List Cond} {rm : Room} {Pc : Array Value → State → Prop} {Qc : Array Value → State → Outcome → State → Prop} {free : Addr → Prop} {Ts : List Cond} {own : String} {As rest : List Value} {g : JFrame}
    (S : CallFix p m c cc nL s args Ts own) (hM : Met l y ws rm Pc Qc mc ms free) (cw : vx_CSW R s args own index y bytes maxL ret hh ws rm mc ms n) (hp : PreS s H Pc As)
    (hg : g.method = m) (hn : As.length = n) (hsize : g.locals.size = nL) (hstack : g.stack = As.reverse ++ rest) (hW : 2 * g.monitorRoom + (rest.map fun v => v.category).sum ≤ 8) (hdg : decode cc g.pc = .ok (.invokestatic index, 3)) (hf : cells + mc ≤ R.cells ∧ slots + ms ≤ R.slots) :
    va_Run p l e R s m args below meth c H locs cells slots mc ms g rest (Qc As.toArray) (free) := by
  obtain ⟨⟨hrc, hrs, hfr, hlo, hws, hcw⟩, hcode, hini, hy, hlen, hl, hstt⟩ := cw
  have hK : Back l R p e below s args y 3 8 (PreOf R mc ms Pc) (PostOf Qc mc ms free) := va_backW (hh := hh) (bytes := bytes) (maxL := maxL) (ret := ret) hM hp.1 hrc hrs hfr hlo hws hcw (fun a' U hW => word_at hW (Or.inl (by first | rfl | simp [Cond.onTables, Cond.keeps, Cond.steady])) hini)
  obtain ⟨hx, hb, hml, ho, -⟩ := S
  intro T hT X
  obtain ⟨v, vm₁, ⟨U', l2, c2, s2⟩, hW₁, X', ⟨g', mk, t, L, e1, e2, hq, h1, hL, h2, h3⟩, st⟩ := vx_callSW X hx (hh := hh) (bytes := bytes) (maxL := maxL) (ret := ret) ho hl hstt hini hcode hy hK hg (hsize.trans hml.symm) (argsL := As) (rest := rest) (fun sig h => hn.trans (hlen sig h)) hstack hW (by rw [hb]; exact hdg)
    (fun vm₁ hW₁ => ⟨hf.1, hf.2, hp.2 (T.setVm vm₁) hT hW₁⟩)
  dsimp only [Pt.U, Pt.locs, Pt.cells, Pt.slots] at X' e1 e2 h1 h2 h3 st
  subst h1; subst h2; subst h3
  exact ⟨v, (T.setVm vm₁).calling g' mk As.toArray, t, U', L, hT, X', hL, e1, e2, hq, st⟩
/-- not caught here, past rows that name other classes: it goes on to the caller -/
theorem vx_outP {p : Program} {l : Launch} {e : Env} {R : Room} {s : State} {m : MethodId} {args : Array Value} {below : List Frame} {meth : Method} {c : Code} {H : Heap} {locs : List Loc} {cells slots : Nat} {free : Addr → Prop} {ls : Array Slot} {rest : List Value} {Qc : Array Value → State → Outcome → State → Prop} {XC : String → State → State → Prop}
    {pc : Nat} {own E : String} {ce : Cell} {q : Addr} {mc ms : Nat} (hown : s.vm.findClass own = some m.cls) (hlocks : meth.locks = false)
    (hpass : ∀ z ∈ c.exceptionTable.toList, covers z pc = false ∨ (z.catchType ≠ 0 ∧ ∃ nm : String, (Cond.classLink own z.catchType nm).before args s = true ∧ va_Nc E nm s)) (hcell : H[q]? = some ce) (hv : ce.vm = .none) (hcl : s.vm.findClass E = some ce.cls)
    (hx : ∀ t : State, t.heap = H → s.vm.Alike t.vm → XC E s t) (hf : ∀ z ∈ locs, free z.base) (hc : cells ≤ mc) (hs : slots ≤ ms) :
    vx_W p l e R s m args below meth c H locs cells slots (vx_MQ below Qc XC args s mc ms free) (F0 m pc ls rest) q := by
  intro T hT X
  have hpl : e.platform.magicAccessors = ({} : Platform).magicAccessors := by rw [X.admits.platform]
  obtain ⟨vm', hW', X', st⟩ := Jvm.Stand.outThrough X hlocks q (g := F0 m pc ls rest) rfl rfl rfl (cell := ce) (by rw [hT]; exact hcell) (by rw [hv]; rfl)
    (by obtain ⟨k9, h9, -⟩ := Vm.findClass_spec hcl; exact ⟨k9, h9⟩) (fun z hz => by
      rcases hpass z hz with h | ⟨hz0, nm, hl1, hn1⟩
      · exact Or.inl h
      · obtain ⟨c6, hc6, hcl6⟩ := Cond.classLink_spec hown hl1 e.platform hpl
        obtain ⟨a8, b8, h1, h2, h3⟩ := hn1
        cases Option.some.inj (h1.symm.trans hcl)
        cases Option.some.inj (h2.symm.trans hc6)
        exact Or.inr ⟨hz0, _, hcl6, h3⟩)
  obtain ⟨g₀, hfr⟩ := X'.frames_eq
  have hcell9 : ((T.setVm vm').setFrames (.throwing q :: below)).heap[q]? = some ce := by
    show T.heap[q]? = some ce
    rw [hT]; exact hcell
  have hend : Ended ((T.setVm vm').setFrames (.throwing q :: below)) below (.threw q) := State.frames_setFrames _ (State.cur_lt_of_frames hfr)
  refine ⟨(T.setVm vm').setFrames (.throwing q :: below), ?_, .threw q, X'.here.running, hend, Or.inr ⟨q, rfl, E, ce, locs, hx _ hT (X'.ends _).1.alike, hcell9, hv, hcl, (X'.ends _).1, (X'.ends _).2.mono hc hs, hf⟩⟩
  rw [X.pushThrowing_eq]
  exact st
/-- a thing of a world lies in the heap -/
theorem vx_lt {D : va_G} {cl : List vw_C} {ws : va_W} {H1 : Heap} (h : va_P D cl ws H1) {k : Nat} {q : Nat × va_E} (hk : ws[k]? = some q) : q.1 < H1.size := (h k q hk).lt
end VXS
/-! ===== END ===== -/
/-! ===== BEGIN methods with a table of their own: called by a name, returning or throwing ===== -/
section VXH
/-! vx_backW, vx_callVX, vx_callSX, vx_callVW, vx_runVW, vx_runVX, vx_runSX, vx_ofWH follow the same proofs as their sisters above (Free/Laws.lean, Shelf42/LK1.lean); vx_outP calls Shelf42/NT130.lean (outThrough). -/
section
variable {l : Launch} {R : Room} {p : Program} {e : Env} {below : List Frame} {s : State} {sargs : Array Value} {y : MethodName} {len W9 : Nat}
theorem vx_backW {ws : List Cond} {rm : Room} {Pc : Array Value → State → Prop} {Qc : Array Value → State → Outcome → State → Prop} {XC : String → State → State → Prop} {mc ms : Nat} {free : Addr → Prop} {bytes : ByteArray} {maxL : Nat} {ret : Option FieldType} {hh : List (Nat × Nat × Nat × Nat)}
    (hM : vx_Met l y ws rm Pc Qc XC mc ms free) (hblind : FrameBlind Pc) (hrc : rm.cells = mc) (hrs : rm.slots = ms)
    (hframes : rm.frames + 1 ≤ R.frames) (hlocals : W9 + (maxL + 11) + rm.locals ≤ R.locals)
    (hws : ∀ w ∈ ws, ∀ a' U, s.WarmedH U.vm → w.before a' U = true) (hcode : Cond.codeWith y bytes maxL ret hh ∈ ws) (hinit : ∀ a' U, s.WarmedH U.vm → (Cond.initialized y.cls).before a' U = true) :
    vx_Back l R p e below s sargs y len W9 (PreOf R mc ms Pc) (PostOf Qc mc ms free) (vx_Post XC mc ms free) := by
  intro m meth c A g ig mk a X hg hsize hdg hW hn hp
  have h1 : (headSpec ws rm).pre.before a A.U = true := atoms_intro fun w hw => hws w hw _ _ X.warmed
  have h2 : (Cond.codeWith y bytes maxL ret hh).before a A.U = true := hws _ hcode _ _ X.warmed
  have h3 : (Cond.initialized y.cls).before a A.U = true := hinit _ _ X.warmed
  have h4 : A.cells + (headSpec ws rm).room.cells ≤ R.cells := by rw [show (headSpec ws rm).room.cells = mc from hrc]; exact hp.1
  have h5 : A.slots + (headSpec ws rm).room.slots ≤ R.slots := by rw [show (headSpec ws rm).room.slots = ms from hrs]; exact hp.2.1
  have hPc : Pc a (A.U.calling g mk a) := hblind _ _ _ _ hp.2.2
  obtain ⟨U, Ls, c0, s0⟩ := A
  dsimp only [Pt.U, Pt.locs, Pt.cells, Pt.slots] at h1 h2 h3 h4 h5 X hn hPc ⊢
  obtain ⟨m9, methY, cY, hn9, hmY, hcY, -, hlY, -⟩ := Cond.codeWith_spec h2
  cases Option.some.inj (hn9.symm.trans hn)
  obtain ⟨kY, hkY, -⟩ := className_of_methodNamed hn
  have hinitY : kY.init = .initialized := Cond.initialized_spec (findClass_of_methodNamed hn) hkY h3
  have h : At U g.method c below := by rw [hg]; exact X.here
  have hlocals9 : W9 + (maxL + 11) + (headSpec ws rm).room.locals ≤ R.locals := hlocals
  have happ : (headSpec ws rm).appliesLoose y e.platform (U.calling g mk a) = true :=
    Spec.appliesLoose_calling (g := g) h hdg hn hkY hinitY
      (X.room_calling (g := g) (R' := (headSpec ws rm).room) hsize hmY hcY hframes (by rw [hlY]; omega) h4 h5) h1
  obtain ⟨mid, hmid⟩ := h.above
  have hfr : (U.setTop g).frames = (.java g :: mid) ++ below := by rw [State.frames_setTop' g h.top, hmid]; rfl
  obtain ⟨o, s₂, hsteps, -, hend, hq⟩ := Steps.callFree hM p X.admits X.cas X.clock (acts := []) hfr happ hPc trivial
  have hq' : vx_Q Qc XC mc ms free a (U.calling g mk a) o s₂ := hq
  rw [State.frames_setTop' g h.top] at hend
  obtain ⟨g₀, hg0⟩ := Option.isSome_iff_exists.mp h.top
  obtain ⟨r, hr⟩ := State.topJava?_eq_some.mp hg0
  have hr' : (({ U with heap := s₂.heap, slotsUsed := s₂.slotsUsed } : State).setVm s₂.vm).frames = .java g₀ :: r := hr
  rcases hq' with ⟨hqc, L, hfe, hL⟩ | ⟨q, rfl, E, ce, L, hx, hce, hcv, hcl, hW₂, hsm, hL⟩
  · obtain ⟨⟨v, rfl⟩, hW₂, e2, q2, q3, q4, q5, q6⟩ := id hfe
    have e3 : s₂ = ({ (U.calling g mk a).setFrames s₂.frames with heap := s₂.heap, slotsUsed := s₂.slotsUsed } : State).setVm s₂.vm := by
      have : s₂ = ({ s₂ with vm := (U.calling g mk a).vm } : State).setVm s₂.vm := rfl
      rw [e2] at this
      exact this
    obtain ⟨c₂, i₂, len₂, hc₂, hd₂, hf₂⟩ := hend
    have hW' : U.WarmedH s₂.vm := hW₂
    have hcc : c₂ = c := by
      have h1 : s₂.code? g.method = U.code? g.method := by
        rw [State.code?_eq, State.code?_eq, hW'.alike.method?]
      exact Option.some.inj (hc₂.symm.trans (h1.trans h.code))
    subst hcc
    have hlen : len₂ = len := by rw [hdg] at hd₂; cases hd₂; rfl
    subst hlen
    have hs₂ : s₂ = (({ U with heap := s₂.heap, slotsUsed := s₂.slotsUsed } : State).setVm s₂.vm).setTop { g with pc := g.pc + len₂, stack := v.toList ++ g.stack } := by
      refine e3.trans ?_
      rw [hf₂, State.calling_eq h.top, State.setFrames_setFrames, State.setTop_of_frames _ hr', hr]
      rfl
    have hsame : U.sameButNew ({ U with heap := s₂.heap, slotsUsed := s₂.slotsUsed } : State) L mc ms := by
      refine ⟨?_, q2, q3, q4, q5, q6⟩
      obtain ⟨t, ht, -⟩ := State.frames_cons hr
      show ({ U with heap := s₂.heap, slotsUsed := s₂.slotsUsed } : State) = { U.setFrames U.frames with heap := s₂.heap, slotsUsed := s₂.slotsUsed }
      rw [State.setFrames_self ht]
    subst hg
    refine Or.inl ⟨v, ⟨(({ U with heap := s₂.heap, slotsUsed := s₂.slotsUsed } : State).setVm s₂.vm), Ls ++ L, c0 + mc, s0 + ms⟩,
      ⟨X.admits, X.cas, X.clock, X.frames, X.room, X.hears, X.method, X.code, (X.here.setHeapUsed s₂.heap s₂.slotsUsed).setVm hW'.alike, X.tail, State.WarmedH.trans X.warmed hW', X.limits, X.bytes, X.same.trans (hsame.setVm s.vm)⟩,
      ⟨g, mk, s₂, L, rfl, rfl, hqc, rfl, hL, rfl, rfl⟩, ?_⟩
    show Steps p.tables e below _ ((({ U with heap := s₂.heap, slotsUsed := s₂.slotsUsed } : State).setVm s₂.vm).setTop { g with pc := g.pc + len₂, stack := v.toList ++ g.stack })
    rw [← hs₂]
    exact hsteps
  · obtain ⟨e2, q2, q3, q4, q5, q6⟩ := id hsm
    have e3 : s₂ = ({ (U.calling g mk a).setFrames s₂.frames with heap := s₂.heap, slotsUsed := s₂.slotsUsed } : State).setVm s₂.vm := by
      have : s₂ = ({ s₂ with vm := (U.calling g mk a).vm } : State).setVm s₂.vm := rfl
      rw [e2] at this
      exact this
    have hf₂ : s₂.frames = .throwing q :: .java g :: U.frames.tail := hend
    have hW' : U.WarmedH s₂.vm := hW₂
    have hs₂ : s₂ = ((({ U with heap := s₂.heap, slotsUsed := s₂.slotsUsed } : State).setVm s₂.vm).setTop g).pushFrame (.throwing q) := by
      refine e3.trans ?_
      rw [hf₂, State.calling_eq h.top, State.setFrames_setFrames, State.pushFrame, State.frames_setTop _ hr', State.setTop_of_frames _ hr', State.setFrames_setFrames, hr]
      rfl
    have hsame : U.sameButNew ({ U with heap := s₂.heap, slotsUsed := s₂.slotsUsed } : State) L mc ms := by
      refine ⟨?_, q2, q3, q4, q5, q6⟩
      obtain ⟨t, ht, -⟩ := State.frames_cons hr
      show ({ U with heap := s₂.heap, slotsUsed := s₂.slotsUsed } : State) = { U.setFrames U.frames with heap := s₂.heap, slotsUsed := s₂.slotsUsed }
      rw [State.setFrames_self ht]
    subst hg
    refine Or.inr ⟨q, ⟨(({ U with heap := s₂.heap, slotsUsed := s₂.slotsUsed } : State).setVm s₂.vm), Ls ++ L, c0 + mc, s0 + ms⟩,
      ⟨X.admits, X.cas, X.clock, X.frames, X.room, X.hears, X.method, X.code, (X.here.setHeapUsed s₂.heap s₂.slotsUsed).setVm hW'.alike, X.tail, State.WarmedH.trans X.warmed hW', X.limits, X.bytes, X.same.trans (hsame.setVm s.vm)⟩,
      ⟨g, mk, s₂, L, E, ce, rfl, rfl, hx, hce, hcv, hcl, rfl, hL, rfl, rfl⟩, ?_⟩
    show Steps p.tables e below _ (((({ U with heap := s₂.heap, slotsUsed := s₂.slotsUsed } : State).setVm s₂.vm).setTop g).pushFrame (.throwing q))
    rw [← hs₂]
    exact hsteps
end
variable {p : Program} {l : Launch} {e : Env} {R : Room} {s : State} {m : MethodId} {args : Array Value} {below : List Frame} {meth : Method} {c : Code} {T : State} {H : Heap} {locs : List Loc} {cells slots : Nat}
theorem vx_callVX (X : Stand p l e R s m args below meth c T locs cells slots) (hexec : p.tables.exec = Jvm.exec) {own C : String} {index : Nat} {y : MethodName} {bytes : ByteArray} {maxL : Nat} {ret : Option FieldType} {hh : List (Nat × Nat × Nat × Nat)}
    (hown : s.vm.findClass own = some m.cls) (hlink : (Cond.methodLink own index y).before args s = true) (hinst : (Cond.instanceMethod y).before args s = true) (hsel : (Cond.selects C y y).before args s = true)
    (hcode : (Cond.codeWith y bytes maxL ret hh).before args s = true) (hy : y.cls ≠ "java/lang/invoke/MethodHandle" ∧ y.cls ≠ "java/lang/invoke/VarHandle")
    {W9 : Nat} {Pre : Pt → Array Value → Prop} {Post : Pt → Array Value → Option Value → Pt → Prop} {PostX : Pt → Array Value → Addr → Pt → Prop} (hK : vx_Back l R p e below s args y 3 W9 Pre Post PostX)
    {b : Addr} {cellB : Cell} (hcell : T.heap[b]? = some cellB) (hobj : cellB.vm.isStatics = false) (hcls : s.vm.findClass C = some cellB.cls)
    {g : JFrame} (hg : g.method = m) (hsize : g.locals.size = c.maxLocals) {argsL rest : List Value} (hlen : ∀ sig, parseMethodDescriptor y.desc = some sig → argsL.length = sig.parameters.length)
    (hstack : g.stack = argsL.reverse ++ .ref b :: rest) (hW : 2 * g.monitorRoom + (rest.map fun v => v.category).sum ≤ W9) (hdg : decode c.code g.pc = .ok (.invokevirtual index, 3))
    (hpre : ∀ vm₁, s.WarmedH vm₁ → Pre ⟨T.setVm vm₁, locs, cells, slots⟩ (Value.ref b :: argsL).toArray) :
    (∃ (v : Option Value) (vm₁ : Vm) (B : Pt), s.WarmedH vm₁ ∧ Stand p l e R s m args below meth c B.U B.locs B.cells B.slots ∧ Post ⟨T.setVm vm₁, locs, cells, slots⟩ (Value.ref b :: argsL).toArray v B ∧
      ∀ target, Steps p.tables e below (B.U.setTop { g with pc := g.pc + 3, stack := v.toList ++ rest }) target → Steps p.tables e below (T.setTop g) target) ∨
    (∃ (q : Addr) (vm₁ : Vm) (B : Pt), s.WarmedH vm₁ ∧ Stand p l e R s m args below meth c B.U B.locs B.cells B.slots ∧ PostX ⟨T.setVm vm₁, locs, cells, slots⟩ (Value.ref b :: argsL).toArray q B ∧
      Steps p.tables e below (T.setTop g) ((B.U.setTop { g with stack := rest }).pushFrame (.throwing q))) := by
  obtain ⟨mk, methM, hnamed, hmethM, hstM, habM⟩ := Cond.instanceMethod_spec hinst
  obtain ⟨m8, methM', cM, hn8, hmethM', -, -, -, -, -, -, hsigM⟩ := Cond.codeWith_spec hcode
  cases Option.some.inj (hn8.symm.trans hnamed)
  cases hmethM.symm.trans hmethM'
  obtain ⟨c2, r2, m2, q1, q2, q3, q4, kP, hkP, hkPi⟩ := Cond.selects_spec hsel
  cases hcls.symm.trans q1
  cases (State.methodFound?_of_named hnamed hy).symm.trans q2
  cases hnamed.symm.trans q3
  have hselP : selectMethod e.platform s.vm cellB.cls mk = .method mk := by rw [Launch.admits_selectMethod X.admits]; exact q4
  obtain ⟨vm₁, X₁, hstep₁⟩ := X.invokevirtual hexec hown hlink hnamed hmethM hstM hkP hkPi hy (a := b) (cell := cellB) hcell
    (fun z h => by rw [h] at hobj; cases hobj) hselP hmethM habM hkP hkPi (g := g) hg (argsL := argsL) (rest := rest) (hlen _ hsigM) hstack hdg
  rcases hK m meth c ⟨T.setVm vm₁, locs, cells, slots⟩ { g with stack := rest } (.invokevirtual index) mk (Value.ref b :: argsL).toArray X₁ hg hsize hdg hW (X₁.named hnamed) (hpre vm₁ X₁.warmed) with ⟨v, B, X', hpost, hsteps⟩ | ⟨q, B, X', hpost, hsteps⟩
  · exact Or.inl ⟨v, vm₁, B, X₁.warmed, X', hpost, fun target h => hstep₁ _ fun acts => by rw [doInvoke_state]; exact hsteps.trans h⟩
  · exact Or.inr ⟨q, vm₁, B, X₁.warmed, X', hpost, hstep₁ _ fun acts => by rw [doInvoke_state]; exact hsteps⟩
theorem vx_callSX (X : Stand p l e R s m args below meth c T locs cells slots) (hexec : p.tables.exec = Jvm.exec) {own : String} {index : Nat} {y : MethodName} {bytes : ByteArray} {maxL : Nat} {ret : Option FieldType} {hh : List (Nat × Nat × Nat × Nat)}
    (hown : s.vm.findClass own = some m.cls) (hlink : (Cond.methodLink own index y).before args s = true) (hstat : (Cond.static y).before args s = true) (hinit : (Cond.initialized y.cls).before args s = true)
    (hcode : (Cond.codeWith y bytes maxL ret hh).before args s = true) (hy : y.cls ≠ "java/lang/invoke/MethodHandle" ∧ y.cls ≠ "java/lang/invoke/VarHandle")
    {W9 : Nat} {Pre : Pt → Array Value → Prop} {Post : Pt → Array Value → Option Value → Pt → Prop} {PostX : Pt → Array Value → Addr → Pt → Prop} (hK : vx_Back l R p e below s args y 3 W9 Pre Post PostX)
    {g : JFrame} (hg : g.method = m) (hsize : g.locals.size = c.maxLocals) {argsL rest : List Value} (hlen : ∀ sig, parseMethodDescriptor y.desc = some sig → argsL.length = sig.parameters.length)
    (hstack : g.stack = argsL.reverse ++ rest) (hW : 2 * g.monitorRoom + (rest.map fun v => v.category).sum ≤ W9) (hdg : decode c.code g.pc = .ok (.invokestatic index, 3))
    (hpre : ∀ vm₁, s.WarmedH vm₁ → Pre ⟨T.setVm vm₁, locs, cells, slots⟩ argsL.toArray) :
    (∃ (v : Option Value) (vm₁ : Vm) (B : Pt), s.WarmedH vm₁ ∧ Stand p l e R s m args below meth c B.U B.locs B.cells B.slots ∧ Post ⟨T.setVm vm₁, locs, cells, slots⟩ argsL.toArray v B ∧
      ∀ target, Steps p.tables e below (B.U.setTop { g with pc := g.pc + 3, stack := v.toList ++ rest }) target → Steps p.tables e below (T.setTop g) target) ∨
    (∃ (q : Addr) (vm₁ : Vm) (B : Pt), s.WarmedH vm₁ ∧ Stand p l e R s m args below meth c B.U B.locs B.cells B.slots ∧ PostX ⟨T.setVm vm₁, locs, cells, slots⟩ argsL.toArray q B ∧
      Steps p.tables e below (T.setTop g) ((B.U.setTop { g with stack := rest }).pushFrame (.throwing q))) := by
  obtain ⟨mk, methM, cM, hnamed, hmethM, -, -, -, -, -, -, hsigM⟩ := Cond.codeWith_spec hcode
  have hstatic : methM.isStatic = true := Cond.static_spec hnamed hmethM hstat
  obtain ⟨kP, hkP, -⟩ := className_of_methodNamed hnamed
  have hinitP : kP.init = .initialized := Cond.initialized_spec (findClass_of_methodNamed hnamed) hkP hinit
  obtain ⟨vm₁, X₁, hstep₁⟩ := X.invokestatic hexec hown hlink hnamed hmethM hstatic hkP hinitP hy (g := g) hg (argsL := argsL) (rest := rest) (hlen _ hsigM) hstack hdg
  rcases hK m meth c ⟨T.setVm vm₁, locs, cells, slots⟩ { g with stack := rest } (.invokestatic index) mk argsL.toArray X₁ hg hsize hdg hW (X₁.named hnamed) (hpre vm₁ X₁.warmed) with ⟨v, B, X', hpost, hsteps⟩ | ⟨q, B, X', hpost, hsteps⟩
  · exact Or.inl ⟨v, vm₁, B, X₁.warmed, X', hpost, fun target h => hstep₁ _ fun acts => by rw [doInvoke_state]; exact hsteps.trans h⟩
  · exact Or.inr ⟨q, vm₁, B, X₁.warmed, X', hpost, hstep₁ _ fun acts => by rw [doInvoke_state]; exact hsteps⟩
theorem vx_callVW (X : Stand p l e R s m args below meth c T locs cells slots) (hexec : p.tables.exec = Jvm.exec) {own C : String} {index : Nat} {y : MethodName} {bytes : ByteArray} {maxL : Nat} {ret : Option FieldType} {hh : List (Nat × Nat × Nat × Nat)}
    (hown : s.vm.findClass own = some m.cls) (hlink : (Cond.methodLink own index y).before args s = true) (hinst : (Cond.instanceMethod y).before args s = true) (hsel : (Cond.selects C y y).before args s = true)
    (hcode : (Cond.codeWith y bytes maxL ret hh).before args s = true) (hy : y.cls ≠ "java/lang/invoke/MethodHandle" ∧ y.cls ≠ "java/lang/invoke/VarHandle")
    {W9 : Nat} {Pre : Pt → Array Value → Prop} {Post : Pt → Array Value → Option Value → Pt → Prop} (hK : Back l R p e below s args y 3 W9 Pre Post)
    {b : Addr} {cellB : Cell} (hcell : T.heap[b]? = some cellB) (hobj : cellB.vm.isStatics = false) (hcls : s.vm.findClass C = some cellB.cls)
    {g : JFrame} (hg : g.method = m) (hsize : g.locals.size = c.maxLocals) {argsL rest : List Value} (hlen : ∀ sig, parseMethodDescriptor y.desc = some sig → argsL.length = sig.parameters.length)
    (hstack : g.stack = argsL.reverse ++ .ref b :: rest) (hW : 2 * g.monitorRoom + (rest.map fun v => v.category).sum ≤ W9) (hdg : decode c.code g.pc = .ok (.invokevirtual index, 3))
    (hpre : ∀ vm₁, s.WarmedH vm₁ → Pre ⟨T.setVm vm₁, locs, cells, slots⟩ (Value.ref b :: argsL).toArray) :
    ∃ (v : Option Value) (vm₁ : Vm) (B : Pt), s.WarmedH vm₁ ∧ Stand p l e R s m args below meth c B.U B.locs B.cells B.slots ∧ Post ⟨T.setVm vm₁, locs, cells, slots⟩ (Value.ref b :: argsL).toArray v B ∧
      ∀ target, Steps p.tables e below (B.U.setTop { g with pc := g.pc + 3, stack := v.toList ++ rest }) target → Steps p.tables e below (T.setTop g) target := by
  obtain ⟨mk, methM, hnamed, hmethM, hstM, habM⟩ := Cond.instanceMethod_spec hinst
  obtain ⟨m8, methM', cM, hn8, hmethM', -, -, -, -, -, -, hsigM⟩ := Cond.codeWith_spec hcode
  cases Option.some.inj (hn8.symm.trans hnamed)
  cases hmethM.symm.trans hmethM'
  obtain ⟨c2, r2, m2, q1, q2, q3, q4, kP, hkP, hkPi⟩ := Cond.selects_spec hsel
  cases hcls.symm.trans q1
  cases (State.methodFound?_of_named hnamed hy).symm.trans q2
  cases hnamed.symm.trans q3
  have hselP : selectMethod e.platform s.vm cellB.cls mk = .method mk := by rw [Launch.admits_selectMethod X.admits]; exact q4
  obtain ⟨vm₁, X₁, hstep₁⟩ := X.invokevirtual hexec hown hlink hnamed hmethM hstM hkP hkPi hy (a := b) (cell := cellB) hcell
    (fun z h => by rw [h] at hobj; cases hobj) hselP hmethM habM hkP hkPi (g := g) hg (argsL := argsL) (rest := rest) (hlen _ hsigM) hstack hdg
  obtain ⟨v, B, X', hpost, hsteps⟩ := hK m meth c ⟨T.setVm vm₁, locs, cells, slots⟩ { g with stack := rest } (.invokevirtual index) mk (Value.ref b :: argsL).toArray X₁ hg hsize hdg hW (X₁.named hnamed) (hpre vm₁ X₁.warmed)
  exact ⟨v, vm₁, B, X₁.warmed, X', hpost, fun target h => hstep₁ _ fun acts => by rw [doInvoke_state]; exact hsteps.trans h⟩
abbrev vx_CVW (R : Room) (s : State) (args : Array Value) (own C : String) (index : Nat) (y : MethodName) (bytes : ByteArray) (maxL : Nat) (ret : Option FieldType) (hh : List (Nat × Nat × Nat × Nat)) (ws : List Cond) (rm : Room) (mc ms n : Nat) : Prop :=
  (rm.cells = mc ∧ rm.slots = ms ∧ rm.frames + 1 ≤ R.frames ∧ 8 + (maxL + 11) + rm.locals ≤ R.locals ∧ (∀ w ∈ ws, ∀ (a' : Array Value) (U : State), s.WarmedH U.vm → w.before a' U = true) ∧ Cond.codeWith y bytes maxL ret hh ∈ ws) ∧
  (Cond.codeWith y bytes maxL ret hh).before args s = true ∧ (Cond.initialized y.cls).before args s = true ∧ (y.cls ≠ "java/lang/invoke/MethodHandle" ∧ y.cls ≠ "java/lang/invoke/VarHandle") ∧
  (∀ sig, parseMethodDescriptor y.desc = some sig → n = sig.parameters.length) ∧ (Cond.methodLink own index y).before args s = true ∧ (Cond.instanceMethod y).before args s = true ∧ (Cond.selects C y y).before args s = true
theorem vx_cwVW {own C : String} {index maxL mc ms : Nat} {y : MethodName} {bytes : ByteArray} {ret : Option FieldType} {hh : List (Nat × Nat × Nat × Nat)} {Ts ws ws' : List Cond} {rm : Room} (n : Nat) (ht : ∀ w ∈ Ts, w.before args s = true) (hT : GoodIn Ts (wsV own index C y ws)) (hw : ws = Cond.codeWith y bytes maxL ret hh :: ws') (hrc : rm.cells = mc) (hrs : rm.slots = ms)
    (hd : y.cls = C ∧ y.cls ≠ "java/lang/invoke/MethodHandle" ∧ y.cls ≠ "java/lang/invoke/VarHandle" ∧ (parseMethodDescriptor y.desc).map (fun d => d.parameters.length) = some n) (hR : rm.frames + 1 ≤ R.frames ∧ 8 + (maxL + 11) + rm.locals ≤ R.locals) :
    vx_CVW R s args own C index y bytes maxL ret hh ws rm mc ms n := by
  obtain ⟨hC, hd⟩ := hd
  subst hC
  have ok : ∀ w ∈ wsV own index y.cls y ws, w.before args s = true := fun w h => ht w (hT w h).1
  have hG : GoodIn Ts ws := fun w h => hT w (by unfold wsV; exact List.mem_append_right _ h)
  have hc : Cond.codeWith y bytes maxL ret hh ∈ ws := by rw [hw]; exact List.mem_cons_self
  refine ⟨⟨hrc, hrs, hR.1, hR.2, pay_in ht hG, hc⟩, ht _ (hG _ hc).1, ok _ (by simp [wsV]), ⟨hd.1, hd.2.1⟩, fun sig h => ?_, ok _ (by simp [wsV]), ok _ (by simp [wsV]), ok _ (by simp [wsV])⟩
  have h2 := hd.2.2
  rw [h] at h2
  exact (Option.some.inj h2).symm
theorem vx_runVW {y : MethodName} {bytes cc : ByteArray} {maxL nL mc ms n index : Nat} {ret : Option FieldType} {hh : List (Nat × Nat × Nat × Nat)} {ws : List Cond} {rm : Room} {Pc : Array Value → State → Prop} {Qc : Array Value → State → Outcome → State → Prop} {free : Addr → Prop} {Ts : List Cond} {own C : String} {b : Addr} {As rest : List Value} {g : JFrame}
    (S : CallFix p m c cc nL s args Ts own) (hM : Met l y ws rm Pc Qc mc ms free) (cw : vx_CVW R s args own C index y bytes maxL ret hh ws rm mc ms n) (hp : PreV s H C b Pc As)
    (hg : g.method = m) (hn : As.length = n) (hsize : g.locals.size = nL) (hstack : g.stack = As.reverse ++ .ref b :: rest) (hW : 2 * g.monitorRoom + (rest.map fun v => v.category).sum ≤ 8) (hdg : decode cc g.pc = .ok (.invokevirtual index, 3)) (hf : cells + mc ≤ R.cells ∧ slots + ms ≤ R.slots) :
    va_Run p l e R s m args below meth c H locs cells slots mc ms g rest (Qc (Value.ref b :: As).toArray) free := by
  obtain ⟨⟨hrc, hrs, hfr, hlo, hws, hcw⟩, hcode, hini, hy, hlen, hl, hin, hse⟩ := cw
  have hK : Back l R p e below s args y 3 8 (PreOf R mc ms Pc) (PostOf Qc mc ms free) := va_backW (hh := hh) (bytes := bytes) (maxL := maxL) (ret := ret) hM hp.1 hrc hrs hfr hlo hws hcw (fun a' U hW => word_at hW (Or.inl (by first | rfl | simp [Cond.onTables, Cond.keeps, Cond.steady])) hini)
  obtain ⟨hx, hb, hml, ho, -⟩ := S
  obtain ⟨-, ⟨cellB, hcB, hoB, hclB⟩, hPc⟩ := hp
  intro T hT X
  obtain ⟨v, vm₁, ⟨U', l2, c2, s2⟩, hW₁, X', ⟨g', mk, t, L, e1, e2, hq, h1, hL, h2, h3⟩, st⟩ := vx_callVW X hx (C := C) (hh := hh) (bytes := bytes) (maxL := maxL) (ret := ret) ho hl hin hse hcode hy hK (by rw [hT]; exact hcB) hoB hclB hg (hsize.trans hml.symm) (argsL := As) (rest := rest) (fun sig h => hn.trans (hlen sig h)) hstack hW (by rw [hb]; exact hdg)
    (fun vm₁ hW₁ => ⟨hf.1, hf.2, hPc (T.setVm vm₁) hT hW₁⟩)
  dsimp only [Pt.U, Pt.locs, Pt.cells, Pt.slots] at X' e1 e2 h1 h2 h3 st
  subst h1; subst h2; subst h3
  exact ⟨v, (T.setVm vm₁).calling g' mk (Value.ref b :: As).toArray, t, U', L, hT, X', hL, e1, e2, hq, st⟩
section
variable {y : MethodName} {bytes cc : ByteArray} {maxL nL mc ms n index : Nat} {ret : Option FieldType} {ws : List Cond} {rm : Room} {Pc : Array Value → State → Prop} {Qc : Array Value → State → Outcome → State → Prop} {XC : String → State → State → Prop} {free : Addr → Prop} {Ts : List Cond} {own C : String} {b : Addr} {As rest : List Value} {g : JFrame}
theorem vx_runVX {hh : List (Nat × Nat × Nat × Nat)} (S : CallFix p m c cc nL s args Ts own) (hM : vx_Met l y ws rm Pc Qc XC mc ms free) (cw : vx_CVW R s args own C index y bytes maxL ret hh ws rm mc ms n) (hp : PreV s H C b Pc As)
    (hg : g.method = m) (hn : As.length = n) (hsize : g.locals.size = nL) (hstack : g.stack = As.reverse ++ .ref b :: rest) (hW : 2 * g.monitorRoom + (rest.map fun v => v.category).sum ≤ 8) (hdg : decode cc g.pc = .ok (.invokevirtual index, 3)) (hf : cells + mc ≤ R.cells ∧ slots + ms ≤ R.slots) :
    vx_Run p l e R s m args below meth c H locs cells slots mc ms g rest (Qc (Value.ref b :: As).toArray) XC free := by
  obtain ⟨⟨hrc, hrs, hfr, hlo, hws, hcw⟩, hcode, hini, hy, hlen, hl, hin, hse⟩ := cw
  have hK : vx_Back l R p e below s args y 3 8 (PreOf R mc ms Pc) (PostOf Qc mc ms free) (vx_Post XC mc ms free) := vx_backW (hh := hh) (bytes := bytes) (maxL := maxL) (ret := ret) hM hp.1 hrc hrs hfr hlo hws hcw (fun a' U hW => word_at hW (Or.inl (by first | rfl | simp [Cond.onTables, Cond.keeps, Cond.steady])) hini)
  obtain ⟨hx, hb, hml, ho, -⟩ := S
  obtain ⟨-, ⟨cellB, hcB, hoB, hclB⟩, hPc⟩ := hp
  intro T hT X
  rcases vx_callVX X hx (C := C) (hh := hh) (bytes := bytes) (maxL := maxL) (ret := ret) ho hl hin hse hcode hy hK (by rw [hT]; exact hcB) hoB hclB hg (hsize.trans hml.symm) (argsL := As) (rest := rest) (fun sig h => hn.trans (hlen sig h)) hstack hW (by rw [hb]; exact hdg)
    (fun vm₁ hW₁ => ⟨hf.1, hf.2, hPc (T.setVm vm₁) hT hW₁⟩) with ⟨v, vm₁, ⟨U', l2, c2, s2⟩, hW₁, X', ⟨g', mk, t, L, e1, e2, hq, h1, hL, h2, h3⟩, st⟩ | ⟨q, vm₁, ⟨U', l2, c2, s2⟩, hW₁, X', ⟨g', mk, t, L, E, ce, e1, e2, hq, hce, hcv, hcl, h1, hL, h2, h3⟩, st⟩
  · dsimp only [Pt.U, Pt.locs, Pt.cells, Pt.slots] at X' e1 e2 h1 h2 h3 st
    subst h1; subst h2; subst h3
    exact Or.inl ⟨v, (T.setVm vm₁).calling g' mk (Value.ref b :: As).toArray, t, U', L, hT, X', hL, e1, e2, hq, st⟩
  · dsimp only [Pt.U, Pt.locs, Pt.cells, Pt.slots] at X' e1 e2 h1 h2 h3 st hcl
    subst h1; subst h2; subst h3
    exact Or.inr ⟨q, (T.setVm vm₁).calling g' mk (Value.ref b :: As).toArray, t, U', L, E, ce, hT, X', hL, e1, e2, hq, hce, hcv, vx_cls hW₁ hcl, st⟩
theorem vx_runSX {hh : List (Nat × Nat × Nat × Nat)} (S : CallFix p m c cc nL s args Ts own) (hM : vx_Met l y ws rm Pc Qc XC mc ms free) (cw : vx_CSW R s args own index y bytes maxL ret hh ws rm mc ms n) (hp : PreS s H Pc As)
    (hg : g.method = m) (hn : As.length = n) (hsize : g.locals.size = nL) (hstack : g.stack = As.reverse ++ rest) (hW : 2 * g.monitorRoom + (rest.map fun v => v.category).sum ≤ 8) (hdg : decode cc g.pc = .ok (.invokestatic index, 3)) (hf : cells + mc ≤ R.cells ∧ slots + ms ≤ R.slots) :
    vx_Run p l e R s m args below meth c H locs cells slots mc ms g rest (Qc As.toArray) XC free := by
  obtain ⟨⟨hrc, hrs, hfr, hlo, hws, hcw⟩, hcode, hini, hy, hlen, hl, hstt⟩ := cw
  have hK : vx_Back l R p e below s args y 3 8 (PreOf R mc ms Pc) (PostOf Qc mc ms free) (vx_Post XC mc ms free) := vx_backW (hh := hh) (bytes := bytes) (maxL := maxL) (ret := ret) hM hp.1 hrc hrs hfr hlo hws hcw (fun a' U hW => word_at hW (Or.inl (by first | rfl | simp [Cond.onTables, Cond.keeps, Cond.steady])) hini)
  obtain ⟨hx, hb, hml, ho, -⟩ := S
  intro T hT X
  rcases vx_callSX X hx (hh := hh) (bytes := bytes) (maxL := maxL) (ret := ret) ho hl hstt hini hcode hy hK hg (hsize.trans hml.symm) (argsL := As) (rest := rest) (fun sig h => hn.trans (hlen sig h)) hstack hW (by rw [hb]; exact hdg)
    (fun vm₁ hW₁ => ⟨hf.1, hf.2, hp.2 (T.setVm vm₁) hT hW₁⟩) with ⟨v, vm₁, ⟨U', l2, c2, s2⟩, hW₁, X', ⟨g', mk, t, L, e1, e2, hq, h1, hL, h2, h3⟩, st⟩ | ⟨q, vm₁, ⟨U', l2, c2, s2⟩, hW₁, X', ⟨g', mk, t, L, E, ce, e1, e2, hq, hce, hcv, hcl, h1, hL, h2, h3⟩, st⟩
  · dsimp only [Pt.U, Pt.locs, Pt.cells, Pt.slots] at X' e1 e2 h1 h2 h3 st
    subst h1; subst h2; subst h3
    exact Or.inl ⟨v, (T.setVm vm₁).calling g' mk As.toArray, t, U', L, hT, X', hL, e1, e2, hq, st⟩
  · dsimp only [Pt.U, Pt.locs, Pt.cells, Pt.slots] at X' e1 e2 h1 h2 h3 st hcl
    subst h1; subst h2; subst h3
    exact Or.inr ⟨q, (T.setVm vm₁).calling g' mk As.toArray, t, U', L, E, ce, hT, X', hL, e1, e2, hq, hce, hcv, vx_cls hW₁ hcl, st⟩
end
end VXH
theorem vx_ofWH {l : Launch} {y : MethodName} {ws ws' : List Cond} {rm : Room} {Pc : Array Value → State → Prop} {Qc : Array Value → State → Outcome → State → Prop} {XC : String → State → State → Prop} {mc ms : Nat} {free : Addr → Prop} {cc : ByteArray} {maxL : Nat} {ret : Option FieldType} {hh : List (Nat × Nat × Nat × Nat)}
    (hy : plainName y.cls = true) (hw : ws = Cond.codeWith y cc maxL ret hh :: ws')
    (body : ∀ p e s m args below meth c s₁, BodyLoose p l y (headSpec ws rm) cc maxL ret e s m args below meth c s₁ → c.maxLocals = maxL → Pc args s →
      W p l e (headSpec ws rm).room s m args below meth c s.heap [] 0 0 (vx_MQ below Qc XC args s mc ms free) (entryFrame m args maxL)) : vx_Met l y ws rm Pc Qc XC mc ms free := by
  refine MetFree.of_bodyS (code := cc) (maxLocals := maxL) (ret := ret) hy ?_ ?_
  · intro args s m h hn
    obtain ⟨m9, meth, c, hn9, h1, h2, h3, h4, -, h5, h6, -⟩ := Cond.codeWith_spec (atoms_spec (ws := ws) h _ (by rw [hw]; exact List.mem_cons_self))
    cases hn.symm.trans hn9
    exact ⟨meth, c, h1, h2, h3, h4, h5, h6⟩
  · intro p e s m args below meth c s₁ B hml hP _
    have hh0 : s₁.heap = s.heap := by rw [B.state]; rfl
    obtain ⟨t, a1, o, b1, b2, b3⟩ := body p e s m args below meth c s₁ B hml hP s₁ hh0 (Stand.of_body B)
    exact ⟨t, o, a1, b1, b2, b3⟩
/-! ===== END ===== -/
end
section
/-! THE PICTURE MACHINE (own text). A pure function that runs the methods' bytecode over a picture of the heap: a list of cells; a reference is a place: below 16 a thing that is there at the start (script, static tables, String constants), from 16 on the cell k - 16 of the picture. Written over recursors: the kernel runs it. -/
abbrev pm_C : Type := (Nat × List Value) ⊕ (Nat × List Value)
abbrev pm_H : Type := List pm_C
abbrev pm_L : Type := List (Option Value)
abbrev pm_T (α : Type) : Type := List (List (Nat × α))
/-- a link: its kind, and three numbers -/
abbrev pm_K : Type := Nat × Nat × Nat × Nat
/-- a method: number of arguments (the receiver too), locals, its class' number, what it answers (0 int, 1 boolean, 2 long, 3 a reference, 4 nothing, 5 char, 6 byte), its code -/
abbrev pm_M : Type := Nat × Nat × Nat × Nat × pm_T (Instr × Nat)
abbrev pm_R : Type := Option (pm_H × (Option Value ⊕ Unit))
noncomputable def pm_nth {α : Type} (l : List α) : Nat → Option α :=
  List.rec (fun _ => none) (fun a _ ih n => Nat.rec (some a) (fun j _ => ih j) n) l
noncomputable def pm_set {α : Type} (l : List α) : Nat → α → List α :=
  List.rec (fun _ _ => []) (fun a t ih n x => Nat.rec (x :: t) (fun j _ => a :: ih j x) n) l
noncomputable def pm_fnd {α : Type} (k : Nat) (l : List (Nat × α)) : Option α :=
  List.rec none (fun q _ ih => cond (Nat.beq q.1 k) (some q.2) ih) l
noncomputable def pm_len {α : Type} (l : List α) : Nat := List.rec 0 (fun _ _ ih => Nat.succ ih) l
noncomputable def pm_all {α : Type} (p : α → Bool) (l : List α) : Bool := List.rec true (fun a _ ih => cond (p a) ih false) l
noncomputable def pm_rep {α : Type} (n : Nat) (v : α) : List α := Nat.rec [] (fun _ ih => v :: ih) n
noncomputable def pm_get {α : Type} (t : pm_T α) (k : Nat) : Option α := Option.rec none (fun c => pm_fnd k c) (pm_nth t (k / 16))
theorem pm_nth_eq {α : Type} : ∀ (l : List α) (n : Nat), pm_nth l n = l[n]?
  | [], n => by
    have h : pm_nth ([] : List α) n = none := rfl
    rw [h]; simp
  | a :: l, 0 => rfl
  | a :: l, n + 1 => by
    have h : pm_nth (a :: l) (n + 1) = pm_nth l n := rfl
    rw [h, pm_nth_eq l n]; simp
theorem pm_set_eq {α : Type} : ∀ (l : List α) (n : Nat) (x : α), pm_set l n x = l.set n x
  | [], n, x => rfl
  | a :: l, 0, x => rfl
  | a :: l, n + 1, x => by
    have h : pm_set (a :: l) (n + 1) x = a :: pm_set l n x := rfl
    rw [h, pm_set_eq l n x]; rfl
theorem pm_len_eq {α : Type} : ∀ (l : List α), pm_len l = l.length
  | [] => rfl
  | a :: l => by
    have h : pm_len (a :: l) = Nat.succ (pm_len l) := rfl
    rw [h, pm_len_eq l]; rfl
theorem pm_all_eq {α : Type} (p : α → Bool) : ∀ (l : List α), pm_all p l = l.all p
  | [] => rfl
  | a :: l => by
    have h : pm_all p (a :: l) = cond (p a) (pm_all p l) false := rfl
    rw [h, pm_all_eq p l, List.all_cons]; cases p a <;> rfl
theorem pm_rep_eq {α : Type} (v : α) : ∀ (n : Nat), pm_rep n v = List.replicate n v
  | 0 => rfl
  | n + 1 => by
    have h : pm_rep (n + 1) v = v :: pm_rep n v := rfl
    rw [h, pm_rep_eq v n]; rfl
theorem pm_fnd_mem {α : Type} {k : Nat} {v : α} : ∀ {l : List (Nat × α)}, pm_fnd k l = some v → (k, v) ∈ l
  | [], h => by cases h
  | q :: l, h => by
    have e : pm_fnd k (q :: l) = cond (Nat.beq q.1 k) (some q.2) (pm_fnd k l) := rfl
    rw [e] at h
    cases hb : Nat.beq q.1 k with
    | true =>
      rw [hb] at h
      have h1 : q.1 = k := Nat.eq_of_beq_eq_true hb
      have h2 : q.2 = v := Option.some.inj h
      obtain ⟨a, b⟩ := q
      dsimp only at h1 h2
      subst h1; subst h2
      exact List.mem_cons_self
    | false =>
      rw [hb] at h
      exact List.mem_cons_of_mem _ (pm_fnd_mem h)
theorem pm_get_mem {α : Type} {t : pm_T α} {k : Nat} {v : α} (h : pm_get t k = some v) : ∃ c ∈ t, (k, v) ∈ c := by
  unfold pm_get at h
  cases hc : pm_nth t (k / 16) with
  | none => rw [hc] at h; cases h
  | some c =>
    rw [hc] at h
    rw [pm_nth_eq] at hc
    exact ⟨c, List.mem_of_getElem? hc, pm_fnd_mem h⟩
/-- forced: the same, with its number written out -/
noncomputable def pm_fn {β : Type} (n : Nat) (k : Nat → β) : β := Nat.rec (k 0) (fun q _ => k (Nat.succ q)) n
theorem pm_fn_eq {β : Type} (n : Nat) (k : Nat → β) : pm_fn n k = k n := by cases n <;> rfl
noncomputable def pm_fi {β : Type} (x : Int32) (k : Int32 → β) : β := Nat.rec (k (Int32.ofNat 0)) (fun q _ => k (Int32.ofNat (Nat.succ q))) x.toBitVec.toNat
noncomputable def pm_fl {β : Type} (x : Int64) (k : Int64 → β) : β := Nat.rec (k (Int64.ofNat 0)) (fun q _ => k (Int64.ofNat (Nat.succ q))) x.toBitVec.toNat
theorem pm_i_nat (x : Int32) : Int32.ofNat x.toBitVec.toNat = x := by
  apply Int32.toBitVec_inj.mp
  simp
theorem pm_l_nat (x : Int64) : Int64.ofNat x.toBitVec.toNat = x := by
  apply Int64.toBitVec_inj.mp
  simp
theorem pm_fi_eq {β : Type} (x : Int32) (k : Int32 → β) : pm_fi x k = k x := by
  have h : pm_fi x k = k (Int32.ofNat x.toBitVec.toNat) := by
    unfold pm_fi
    cases x.toBitVec.toNat <;> rfl
  rw [h, pm_i_nat]
theorem pm_fl_eq {β : Type} (x : Int64) (k : Int64 → β) : pm_fl x k = k x := by
  have h : pm_fl x k = k (Int64.ofNat x.toBitVec.toNat) := by
    unfold pm_fl
    cases x.toBitVec.toNat <;> rfl
  rw [h, pm_l_nat]
end
section
/-! code of the methods (printed by wip/tool out of claim/Statement.lean), in chunks of 16 bytes; each row is what decode gives -/
set_option maxRecDepth 100000 in
def pmc_0 : pm_T (Instr × Nat) := [[(0, (.aload_n 0, 1)), (1, (.invokespecial 3, 3)), (4, (.aload_n 0, 1)), (5, (.bipush 24, 2)), (7, (.newarray .int, 2)), (9, (.putfield 9, 3)), (12, (.aload_n 0, 1)), (13, (.bipush 24, 2)), (15, (.newarray .int, 2))], [(17, (.putfield 15, 3)), (20, (.return_, 1))]]
set_option maxRecDepth 100000 in
def pmc_1 : pm_T (Instr × Nat) := [[(0, (.iload_n 2, 1)), (1, (.istore 5, 2)), (3, (.iload 5, 2)), (5, (.bipush 12, 2)), (7, (.if_icmp .ge 36, 3)), (10, (.aload_n 0, 1)), (11, (.getfield 9, 3)), (14, (.iload_n 1, 1)), (15, (.bipush 12, 2))], [(17, (.imul, 1)), (18, (.iload 5, 2)), (20, (.iadd, 1)), (21, (.iload_n 3, 1)), (22, (.iastore, 1)), (23, (.aload_n 0, 1)), (24, (.getfield 15, 3)), (27, (.iload_n 1, 1)), (28, (.bipush 12, 2)), (30, (.imul, 1)), (31, (.iload 5, 2))], [(33, (.iadd, 1)), (34, (.iload 4, 2)), (36, (.iastore, 1)), (37, (.iinc 5 1, 3)), (40, (.goto (-37), 3)), (43, (.return_, 1))]]
set_option maxRecDepth 100000 in
def pmc_2 : pm_T (Instr × Nat) := [[(0, (.aload_n 0, 1)), (1, (.getfield 9, 3)), (4, (.iload_n 1, 1)), (5, (.bipush 12, 2)), (7, (.imul, 1)), (8, (.iload_n 2, 1)), (9, (.iadd, 1)), (10, (.iaload, 1)), (11, (.ireturn, 1))]]
set_option maxRecDepth 100000 in
def pmc_3 : pm_T (Instr × Nat) := [[(0, (.aload_n 0, 1)), (1, (.getfield 15, 3)), (4, (.iload_n 1, 1)), (5, (.bipush 12, 2)), (7, (.imul, 1)), (8, (.iload_n 2, 1)), (9, (.iadd, 1)), (10, (.iaload, 1)), (11, (.ireturn, 1))]]
set_option maxRecDepth 100000 in
def pmc_4 : pm_T (Instr × Nat) := [[(0, (.iload_n 2, 1)), (1, (.iconst 1, 1)), (2, (.if_icmp .ge 7, 3)), (5, (.iconst 0, 1)), (6, (.goto 18, 3)), (9, (.aload_n 0, 1)), (10, (.iload_n 1, 1)), (11, (.iload_n 2, 1)), (12, (.invokevirtual 18, 3)), (15, (.aload_n 0, 1))], [(16, (.iload_n 1, 1)), (17, (.iload_n 2, 1)), (18, (.iconst 1, 1)), (19, (.isub, 1)), (20, (.invokevirtual 18, 3)), (23, (.isub, 1)), (24, (.ireturn, 1))]]
set_option maxRecDepth 100000 in
def pmc_5 : pm_T (Instr × Nat) := [[(0, (.aload_n 0, 1)), (1, (.invokespecial 1, 3)), (4, (.aload_n 0, 1)), (5, (.lconst 0, 1)), (6, (.putfield 7, 3)), (9, (.aload_n 0, 1)), (10, (.lconst 1, 1)), (11, (.putfield 13, 3)), (14, (.return_, 1))]]
set_option maxRecDepth 100000 in
def pmc_6 : pm_T (Instr × Nat) := [[(0, (.lload_n 1, 1)), (1, (.invokestatic 16, 3)), (4, (.lload_n 3, 1)), (5, (.invokestatic 22, 3)), (8, (.lstore 5, 2)), (10, (.lload_n 3, 1)), (11, (.lconst 0, 1)), (12, (.lcmp, 1)), (13, (.ifCond .le 10, 3))], [(16, (.lload 5, 2)), (18, (.lconst 0, 1)), (19, (.lcmp, 1)), (20, (.ifCond .gt 4, 3)), (23, (.return_, 1)), (24, (.aload_n 0, 1)), (25, (.lload_n 1, 1)), (26, (.lload 5, 2)), (28, (.ldiv, 1)), (29, (.putfield 7, 3))], [(32, (.aload_n 0, 1)), (33, (.lload_n 3, 1)), (34, (.lload 5, 2)), (36, (.ldiv, 1)), (37, (.putfield 13, 3)), (40, (.return_, 1))]]
set_option maxRecDepth 100000 in
def pmc_7 : pm_T (Instr × Nat) := [[(0, (.lload_n 0, 1)), (1, (.lstore 4, 2)), (3, (.lload_n 2, 1)), (4, (.lstore 6, 2)), (6, (.iconst 0, 1)), (7, (.istore 8, 2)), (9, (.iload 8, 2)), (11, (.bipush 100, 2)), (13, (.if_icmp .ge 31, 3))], [(16, (.lload 6, 2)), (18, (.lconst 0, 1)), (19, (.lcmp, 1)), (20, (.ifCond .eq 24, 3)), (23, (.lload 4, 2)), (25, (.lload 6, 2)), (27, (.lrem, 1)), (28, (.lstore 9, 2)), (30, (.lload 6, 2))], [(32, (.lstore 4, 2)), (34, (.lload 9, 2)), (36, (.lstore 6, 2)), (38, (.iinc 8 1, 3)), (41, (.goto (-32), 3)), (44, (.lload 4, 2)), (46, (.lreturn, 1))]]
set_option maxRecDepth 100000 in
def pmc_8 : pm_T (Instr × Nat) := [[(0, (.aload_n 0, 1)), (1, (.getfield 7, 3)), (4, (.lconst 0, 1)), (5, (.invokestatic 30, 3)), (8, (.ireturn, 1))]]
set_option maxRecDepth 100000 in
def pmc_9 : pm_T (Instr × Nat) := [[(0, (.iload_n 1, 1)), (1, (.ifCond .ne 10, 3)), (4, (.aload_n 0, 1)), (5, (.getfield 7, 3)), (8, (.goto 7, 3)), (11, (.aload_n 0, 1)), (12, (.getfield 13, 3)), (15, (.lreturn, 1))]]
set_option maxRecDepth 100000 in
def pmc_10 : pm_T (Instr × Nat) := [[(0, (.aload_n 0, 1)), (1, (.aload_n 0, 1)), (2, (.getfield 7, 3)), (5, (.invokestatic 16, 3)), (8, (.putfield 7, 3)), (11, (.return_, 1))]]
set_option maxRecDepth 100000 in
def pmc_11 : pm_T (Instr × Nat) := [[(0, (.aload_n 0, 1)), (1, (.getfield 7, 3)), (4, (.aload_n 1, 1)), (5, (.getfield 13, 3)), (8, (.lmul, 1)), (9, (.aload_n 1, 1)), (10, (.getfield 7, 3)), (13, (.aload_n 0, 1)), (14, (.getfield 13, 3))], [(17, (.lmul, 1)), (18, (.lcmp, 1)), (19, (.ifCond .ge 7, 3)), (22, (.iconst 1, 1)), (23, (.goto 4, 3)), (26, (.iconst 0, 1)), (27, (.ireturn, 1))]]
set_option maxRecDepth 100000 in
def pmc_12 : pm_T (Instr × Nat) := [[(0, (.aload_n 0, 1)), (1, (.aload_n 1, 1)), (2, (.getfield 7, 3)), (5, (.putfield 7, 3)), (8, (.aload_n 0, 1)), (9, (.aload_n 1, 1)), (10, (.getfield 13, 3)), (13, (.putfield 13, 3))], [(16, (.return_, 1))]]
set_option maxRecDepth 100000 in
def pmc_13 : pm_T (Instr × Nat) := [[(0, (.aload_n 0, 1)), (1, (.getfield 7, 3)), (4, (.lload_n 3, 1)), (5, (.lmul, 1)), (6, (.lload_n 1, 1)), (7, (.aload_n 0, 1)), (8, (.getfield 13, 3)), (11, (.lmul, 1)), (12, (.lcmp, 1)), (13, (.ifCond .lt 7, 3))], [(16, (.iconst 1, 1)), (17, (.goto 4, 3)), (20, (.iconst 0, 1)), (21, (.ireturn, 1))]]
set_option maxRecDepth 100000 in
def pmc_14 : pm_T (Instr × Nat) := [[(0, (.aload_n 0, 1)), (1, (.aload_n 0, 1)), (2, (.getfield 7, 3)), (5, (.aload_n 1, 1)), (6, (.getfield 13, 3)), (9, (.lmul, 1)), (10, (.aload_n 1, 1)), (11, (.getfield 7, 3)), (14, (.aload_n 0, 1)), (15, (.getfield 13, 3))], [(18, (.lmul, 1)), (19, (.lsub, 1)), (20, (.aload_n 0, 1)), (21, (.getfield 13, 3)), (24, (.aload_n 1, 1)), (25, (.getfield 13, 3)), (28, (.lmul, 1)), (29, (.invokevirtual 26, 3))], [(32, (.return_, 1))]]
set_option maxRecDepth 100000 in
def pmc_15 : pm_T (Instr × Nat) := [[(0, (.aload_n 0, 1)), (1, (.invokespecial 3, 3)), (4, (.aload_n 0, 1)), (5, (.sipush 288, 3)), (8, (.newarray .int, 2)), (10, (.putfield 9, 3)), (13, (.aload_n 0, 1)), (14, (.getfield 9, 3))], [(17, (.bipush (-2), 2)), (19, (.invokestatic 15, 3)), (22, (.return_, 1))]]
set_option maxRecDepth 100000 in
def pmc_16 : pm_T (Instr × Nat) := [[(0, (.aload_n 0, 1)), (1, (.getfield 9, 3)), (4, (.iload_n 1, 1)), (5, (.bipush 12, 2)), (7, (.imul, 1)), (8, (.iload_n 2, 1)), (9, (.iadd, 1)), (10, (.iconst (-1), 1)), (11, (.iastore, 1)), (12, (.return_, 1))]]
set_option maxRecDepth 100000 in
def pmc_17 : pm_T (Instr × Nat) := [[(0, (.aload_n 0, 1)), (1, (.getfield 9, 3)), (4, (.iload_n 1, 1)), (5, (.bipush 12, 2)), (7, (.imul, 1)), (8, (.iload_n 2, 1)), (9, (.iadd, 1)), (10, (.bipush (-2), 2)), (12, (.iastore, 1)), (13, (.return_, 1))]]
set_option maxRecDepth 100000 in
def pmc_18 : pm_T (Instr × Nat) := [[(0, (.aload_n 0, 1)), (1, (.getfield 9, 3)), (4, (.iload_n 1, 1)), (5, (.bipush 12, 2)), (7, (.imul, 1)), (8, (.iload_n 2, 1)), (9, (.iadd, 1)), (10, (.iload_n 3, 1)), (11, (.bipush 100, 2)), (13, (.imul, 1)), (14, (.iload 4, 2))], [(16, (.iadd, 1)), (17, (.iastore, 1)), (18, (.return_, 1))]]
set_option maxRecDepth 100000 in
def pmc_19 : pm_T (Instr × Nat) := [[(0, (.aload_n 0, 1)), (1, (.getfield 9, 3)), (4, (.iload_n 1, 1)), (5, (.bipush 12, 2)), (7, (.imul, 1)), (8, (.iload_n 2, 1)), (9, (.iadd, 1)), (10, (.iaload, 1)), (11, (.bipush (-2), 2)), (13, (.if_icmp .ne 7, 3))], [(16, (.iconst 1, 1)), (17, (.goto 4, 3)), (20, (.iconst 0, 1)), (21, (.ireturn, 1))]]
set_option maxRecDepth 100000 in
def pmc_20 : pm_T (Instr × Nat) := [[(0, (.aload_n 0, 1)), (1, (.iload_n 1, 1)), (2, (.iload_n 2, 1)), (3, (.invokevirtual 31, 3)), (6, (.bipush 10, 2)), (8, (.imul, 1)), (9, (.aload_n 0, 1)), (10, (.iload_n 1, 1)), (11, (.iload_n 2, 1)), (12, (.invokevirtual 34, 3)), (15, (.iload_n 3, 1))], [(16, (.imul, 1)), (17, (.iadd, 1)), (18, (.ireturn, 1))]]
set_option maxRecDepth 100000 in
def pmc_21 : pm_T (Instr × Nat) := [[(0, (.iconst 0, 1)), (1, (.aload_n 0, 1)), (2, (.getfield 9, 3)), (5, (.iload_n 1, 1)), (6, (.bipush 12, 2)), (8, (.imul, 1)), (9, (.iload_n 2, 1)), (10, (.iadd, 1)), (11, (.iaload, 1)), (12, (.invokestatic 25, 3)), (15, (.bipush 100, 2))], [(17, (.idiv, 1)), (18, (.ireturn, 1))]]
set_option maxRecDepth 100000 in
def pmc_22 : pm_T (Instr × Nat) := [[(0, (.iconst 0, 1)), (1, (.aload_n 0, 1)), (2, (.getfield 9, 3)), (5, (.iload_n 1, 1)), (6, (.bipush 12, 2)), (8, (.imul, 1)), (9, (.iload_n 2, 1)), (10, (.iadd, 1)), (11, (.iaload, 1)), (12, (.invokestatic 25, 3)), (15, (.bipush 100, 2))], [(17, (.irem, 1)), (18, (.ireturn, 1))]]
set_option maxRecDepth 100000 in
def pmc_23 : pm_T (Instr × Nat) := [[(0, (.aload_n 0, 1)), (1, (.iload_n 1, 1)), (2, (.iload_n 2, 1)), (3, (.invokevirtual 21, 3)), (6, (.ifCond .ne 16, 3)), (9, (.aload_n 0, 1)), (10, (.iload_n 1, 1)), (11, (.iload_n 3, 1)), (12, (.invokevirtual 21, 3)), (15, (.ifCond .ne 7, 3))], [(18, (.iconst 1, 1)), (19, (.goto 4, 3)), (22, (.iconst 0, 1)), (23, (.ireturn, 1))]]
set_option maxRecDepth 100000 in
def pmc_24 : pm_T (Instr × Nat) := [[(0, (.aload_n 0, 1)), (1, (.iload_n 1, 1)), (2, (.iload_n 3, 1)), (3, (.iload 4, 2)), (5, (.invokevirtual 37, 3)), (8, (.aload_n 0, 1)), (9, (.iload_n 1, 1)), (10, (.iload_n 2, 1)), (11, (.iload 4, 2)), (13, (.invokevirtual 37, 3))], [(16, (.isub, 1)), (17, (.ireturn, 1))]]
set_option maxRecDepth 100000 in
def pmc_25 : pm_T (Instr × Nat) := [[(0, (.aload_n 1, 1)), (1, (.getfield 9, 3)), (4, (.iconst 0, 1)), (5, (.aload_n 0, 1)), (6, (.getfield 9, 3)), (9, (.iconst 0, 1)), (10, (.aload_n 0, 1)), (11, (.getfield 9, 3)), (14, (.arraylength, 1)), (15, (.invokestatic 44, 3))], [(18, (.return_, 1))]]
set_option maxRecDepth 100000 in
def pmc_26 : pm_T (Instr × Nat) := [[(0, (.aload_n 0, 1)), (1, (.getfield 9, 3)), (4, (.iload_n 1, 1)), (5, (.bipush 12, 2)), (7, (.imul, 1)), (8, (.iload_n 2, 1)), (9, (.iadd, 1)), (10, (.iaload, 1)), (11, (.iconst (-1), 1)), (12, (.if_icmp .ne 7, 3)), (15, (.iconst 1, 1))], [(16, (.goto 4, 3)), (19, (.iconst 0, 1)), (20, (.ireturn, 1))]]
set_option maxRecDepth 100000 in
def pmc_27 : pm_T (Instr × Nat) := [[(0, (.iconst 0, 1)), (1, (.istore_n 2, 1)), (2, (.iconst 0, 1)), (3, (.istore_n 3, 1)), (4, (.iload_n 3, 1)), (5, (.bipush 12, 2)), (7, (.if_icmp .ge 26, 3)), (10, (.iload_n 2, 1)), (11, (.aload_n 0, 1)), (12, (.iload_n 1, 1)), (13, (.iload_n 3, 1)), (14, (.invokevirtual 21, 3))], [(17, (.ifCond .eq 7, 3)), (20, (.iconst 1, 1)), (21, (.goto 4, 3)), (24, (.iconst 0, 1)), (25, (.iadd, 1)), (26, (.istore_n 2, 1)), (27, (.iinc 3 1, 3)), (30, (.goto (-26), 3))], [(33, (.iload_n 2, 1)), (34, (.ireturn, 1))]]
set_option maxRecDepth 100000 in
def pmc_28 : pm_T (Instr × Nat) := [[(0, (.iconst 0, 1)), (1, (.istore_n 2, 1)), (2, (.iconst 0, 1)), (3, (.istore_n 3, 1)), (4, (.iload_n 3, 1)), (5, (.bipush 12, 2)), (7, (.if_icmp .ge 26, 3)), (10, (.iload_n 2, 1)), (11, (.aload_n 0, 1)), (12, (.iload_n 1, 1)), (13, (.iload_n 3, 1)), (14, (.invokevirtual 41, 3))], [(17, (.ifCond .eq 7, 3)), (20, (.iconst 1, 1)), (21, (.goto 4, 3)), (24, (.iconst 0, 1)), (25, (.iadd, 1)), (26, (.istore_n 2, 1)), (27, (.iinc 3 1, 3)), (30, (.goto (-26), 3))], [(33, (.iload_n 2, 1)), (34, (.ireturn, 1))]]
set_option maxRecDepth 100000 in
def pmc_29 : pm_T (Instr × Nat) := [[(0, (.iconst 0, 1)), (1, (.istore_n 1, 1)), (2, (.iconst 0, 1)), (3, (.istore_n 2, 1)), (4, (.iload_n 2, 1)), (5, (.aload_n 0, 1)), (6, (.getfield 9, 3)), (9, (.arraylength, 1)), (10, (.if_icmp .ge 28, 3)), (13, (.iload_n 1, 1)), (14, (.aload_n 0, 1)), (15, (.getfield 9, 3))], [(18, (.iload_n 2, 1)), (19, (.iaload, 1)), (20, (.bipush (-2), 2)), (22, (.if_icmp .eq 7, 3)), (25, (.iconst 1, 1)), (26, (.goto 4, 3)), (29, (.iconst 0, 1)), (30, (.iadd, 1)), (31, (.istore_n 1, 1))], [(32, (.iinc 2 1, 3)), (35, (.goto (-31), 3)), (38, (.iload_n 1, 1)), (39, (.ireturn, 1))]]
set_option maxRecDepth 100000 in
def pmc_30 : pm_T (Instr × Nat) := [[(0, (.aload_n 0, 1)), (1, (.invokespecial 1, 3)), (4, (.aload_n 0, 1)), (5, (.new 7, 3)), (8, (.dup, 1)), (9, (.invokespecial 9, 3)), (12, (.putfield 10, 3)), (15, (.aload_n 0, 1))], [(16, (.new 7, 3)), (19, (.dup, 1)), (20, (.invokespecial 9, 3)), (23, (.putfield 16, 3)), (26, (.aload_n 0, 1)), (27, (.iconst 0, 1)), (28, (.putfield 19, 3)), (31, (.aload_n 0, 1))], [(32, (.iconst 0, 1)), (33, (.putfield 23, 3)), (36, (.return_, 1))]]
set_option maxRecDepth 100000 in
def pmc_31 : pm_T (Instr × Nat) := [[(0, (.aload_n 0, 1)), (1, (.getfield 10, 3)), (4, (.aload_n 1, 1)), (5, (.invokevirtual 27, 3)), (8, (.aload_n 0, 1)), (9, (.getfield 16, 3)), (12, (.aload_n 2, 1)), (13, (.invokevirtual 27, 3))], [(16, (.aload_n 0, 1)), (17, (.iload_n 3, 1)), (18, (.putfield 19, 3)), (21, (.aload_n 0, 1)), (22, (.iconst 1, 1)), (23, (.putfield 23, 3)), (26, (.return_, 1))]]
set_option maxRecDepth 100000 in
def pmc_32 : pm_T (Instr × Nat) := [[(0, (.aload_n 0, 1)), (1, (.getfield 23, 3)), (4, (.ireturn, 1))]]
set_option maxRecDepth 100000 in
def pmc_33 : pm_T (Instr × Nat) := [[(0, (.aload_n 0, 1)), (1, (.getfield 19, 3)), (4, (.ireturn, 1))]]
set_option maxRecDepth 100000 in
def pmc_34 : pm_T (Instr × Nat) := [[(0, (.aload_n 1, 1)), (1, (.aload_n 0, 1)), (2, (.getfield 10, 3)), (5, (.invokevirtual 27, 3)), (8, (.aload_n 2, 1)), (9, (.aload_n 0, 1)), (10, (.getfield 16, 3)), (13, (.invokevirtual 27, 3))], [(16, (.return_, 1))]]
set_option maxRecDepth 100000 in
def pmc_35 : pm_T (Instr × Nat) := [[(0, (.aload_n 0, 1)), (1, (.invokespecial 3, 3)), (4, (.aload_n 0, 1)), (5, (.bipush 20, 2)), (7, (.newarray .int, 2)), (9, (.putfield 11, 3)), (12, (.aload_n 0, 1)), (13, (.bipush 20, 2)), (15, (.newarray .int, 2))], [(17, (.putfield 15, 3)), (20, (.aload_n 0, 1)), (21, (.bipush 20, 2)), (23, (.newarray .boolean, 2)), (25, (.putfield 18, 3)), (28, (.aload_n 0, 1)), (29, (.iconst 0, 1)), (30, (.putfield 22, 3))], [(33, (.return_, 1))]]
set_option maxRecDepth 100000 in
def pmc_36 : pm_T (Instr × Nat) := [[(0, (.aload_n 0, 1)), (1, (.getfield 22, 3)), (4, (.bipush 20, 2)), (6, (.if_icmp .lt 7, 3)), (9, (.iconst 1, 1)), (10, (.goto 4, 3)), (13, (.iconst 0, 1)), (14, (.ireturn, 1))]]
set_option maxRecDepth 100000 in
def pmc_37 : pm_T (Instr × Nat) := [[(0, (.aload_n 0, 1)), (1, (.invokevirtual 26, 3)), (4, (.ifCond .eq 5, 3)), (7, (.iconst (-1), 1)), (8, (.ireturn, 1)), (9, (.aload_n 0, 1)), (10, (.getfield 11, 3)), (13, (.aload_n 0, 1)), (14, (.getfield 22, 3))], [(17, (.iload_n 1, 1)), (18, (.iastore, 1)), (19, (.aload_n 0, 1)), (20, (.getfield 15, 3)), (23, (.aload_n 0, 1)), (24, (.getfield 22, 3)), (27, (.iload_n 2, 1)), (28, (.iastore, 1)), (29, (.aload_n 0, 1)), (30, (.getfield 18, 3))], [(33, (.aload_n 0, 1)), (34, (.getfield 22, 3)), (37, (.iload_n 3, 1)), (38, (.bastore, 1)), (39, (.aload_n 0, 1)), (40, (.dup, 1)), (41, (.getfield 22, 3)), (44, (.iconst 1, 1)), (45, (.iadd, 1)), (46, (.putfield 22, 3))], [(49, (.aload_n 0, 1)), (50, (.getfield 22, 3)), (53, (.iconst 1, 1)), (54, (.isub, 1)), (55, (.ireturn, 1))]]
set_option maxRecDepth 100000 in
def pmc_38 : pm_T (Instr × Nat) := [[(0, (.iconst 0, 1)), (1, (.istore_n 2, 1)), (2, (.iconst 0, 1)), (3, (.istore_n 3, 1)), (4, (.iload_n 3, 1)), (5, (.aload_n 0, 1)), (6, (.getfield 22, 3)), (9, (.if_icmp .ge 35, 3)), (12, (.iload_n 2, 1)), (13, (.aload_n 0, 1)), (14, (.getfield 18, 3))], [(17, (.iload_n 3, 1)), (18, (.baload, 1)), (19, (.ifCond .ne 7, 3)), (22, (.iload_n 1, 1)), (23, (.ifCond .ne 12, 3)), (26, (.aload_n 0, 1)), (27, (.getfield 15, 3)), (30, (.iload_n 3, 1)), (31, (.iaload, 1))], [(32, (.goto 4, 3)), (35, (.iconst 0, 1)), (36, (.iadd, 1)), (37, (.istore_n 2, 1)), (38, (.iinc 3 1, 3)), (41, (.goto (-37), 3)), (44, (.iload_n 2, 1)), (45, (.ireturn, 1))]]
set_option maxRecDepth 100000 in
def pmc_39 : pm_T (Instr × Nat) := [[(0, (.iconst 0, 1)), (1, (.istore_n 2, 1)), (2, (.iconst 0, 1)), (3, (.istore_n 3, 1)), (4, (.iload_n 3, 1)), (5, (.aload_n 0, 1)), (6, (.getfield 22, 3)), (9, (.if_icmp .ge 35, 3)), (12, (.iload_n 2, 1)), (13, (.aload_n 0, 1)), (14, (.getfield 18, 3))], [(17, (.iload_n 3, 1)), (18, (.baload, 1)), (19, (.ifCond .ne 7, 3)), (22, (.iload_n 1, 1)), (23, (.ifCond .ne 12, 3)), (26, (.aload_n 0, 1)), (27, (.getfield 11, 3)), (30, (.iload_n 3, 1)), (31, (.iaload, 1))], [(32, (.goto 4, 3)), (35, (.iconst 0, 1)), (36, (.iadd, 1)), (37, (.istore_n 2, 1)), (38, (.iinc 3 1, 3)), (41, (.goto (-37), 3)), (44, (.iload_n 2, 1)), (45, (.ireturn, 1))]]
set_option maxRecDepth 100000 in
def pmc_40 : pm_T (Instr × Nat) := [[(0, (.aload_n 0, 1)), (1, (.getfield 22, 3)), (4, (.ireturn, 1))]]
set_option maxRecDepth 100000 in
def pmc_41 : pm_T (Instr × Nat) := [[(0, (.aload_n 0, 1)), (1, (.aload_n 0, 1)), (2, (.getfield 22, 3)), (5, (.iload_n 1, 1)), (6, (.invokestatic 30, 3)), (9, (.putfield 22, 3)), (12, (.return_, 1))]]
set_option maxRecDepth 100000 in
def pmc_42 : pm_T (Instr × Nat) := [[(0, (.iconst 0, 1)), (1, (.istore_n 1, 1)), (2, (.iconst 0, 1)), (3, (.istore_n 2, 1)), (4, (.iload_n 2, 1)), (5, (.aload_n 0, 1)), (6, (.getfield 22, 3)), (9, (.if_icmp .ge 26, 3)), (12, (.iload_n 1, 1)), (13, (.aload_n 0, 1)), (14, (.getfield 18, 3))], [(17, (.iload_n 2, 1)), (18, (.baload, 1)), (19, (.ifCond .eq 7, 3)), (22, (.iconst 1, 1)), (23, (.goto 4, 3)), (26, (.iconst 0, 1)), (27, (.iadd, 1)), (28, (.istore_n 1, 1)), (29, (.iinc 2 1, 3))], [(32, (.goto (-28), 3)), (35, (.iload_n 1, 1)), (36, (.ireturn, 1))]]
set_option maxRecDepth 100000 in
def pmc_43 : pm_T (Instr × Nat) := [[(0, (.aload_n 0, 1)), (1, (.invokespecial 3, 3)), (4, (.aload_n 0, 1)), (5, (.bipush 40, 2)), (7, (.newarray .int, 2)), (9, (.putfield 11, 3)), (12, (.aload_n 0, 1)), (13, (.iconst 0, 1)), (14, (.putfield 15, 3))], [(17, (.aload_n 0, 1)), (18, (.iconst 0, 1)), (19, (.putfield 19, 3)), (22, (.aload_n 0, 1)), (23, (.iconst 0, 1)), (24, (.putfield 22, 3)), (27, (.aload_n 0, 1)), (28, (.iconst 0, 1)), (29, (.putfield 25, 3))], [(32, (.aload_n 0, 1)), (33, (.iconst 0, 1)), (34, (.putfield 28, 3)), (37, (.aload_n 0, 1)), (38, (.aload_n 1, 1)), (39, (.putfield 31, 3)), (42, (.aload_n 0, 1)), (43, (.aload_n 2, 1)), (44, (.putfield 35, 3)), (47, (.aload_n 0, 1))], [(48, (.aload_n 3, 1)), (49, (.putfield 38, 3)), (52, (.return_, 1))]]
set_option maxRecDepth 100000 in
def pmc_44 : pm_T (Instr × Nat) := [[(0, (.aload_n 2, 1)), (1, (.invokevirtual 41, 3)), (4, (.aload_n 1, 1)), (5, (.invokevirtual 46, 3)), (8, (.aload_n 0, 1)), (9, (.iconst 0, 1)), (10, (.putfield 25, 3)), (13, (.iconst 0, 1)), (14, (.istore_n 3, 1)), (15, (.iload_n 3, 1))], [(16, (.sipush 1000, 3)), (19, (.if_icmp .gt 47, 3)), (22, (.aload_n 1, 1)), (23, (.invokevirtual 51, 3)), (26, (.aload_n 0, 1)), (27, (.aload_n 1, 1)), (28, (.aload_n 2, 1)), (29, (.invokevirtual 54, 3))], [(32, (.istore 4, 2)), (34, (.iload 4, 2)), (36, (.ifCond .eq 14, 3)), (39, (.iload 4, 2)), (41, (.bipush 16, 2)), (43, (.aload_n 1, 1)), (44, (.invokevirtual 58, 3)), (47, (.imul, 1))], [(48, (.iadd, 1)), (49, (.ireturn, 1)), (50, (.aload_n 1, 1)), (51, (.invokevirtual 62, 3)), (54, (.iconst 4, 1)), (55, (.if_icmp .ne 5, 3)), (58, (.iconst 0, 1)), (59, (.ireturn, 1)), (60, (.iinc 3 1, 3)), (63, (.goto (-48), 3))], [(66, (.iconst 0, 1)), (67, (.ireturn, 1))]]
set_option maxRecDepth 100000 in
def pmc_45 : pm_T (Instr × Nat) := [[(0, (.aload_n 0, 1)), (1, (.getfield 25, 3)), (4, (.tableswitch 84 0 4 #[36, 43, 63, 70, 77], 36))], [], [(40, (.aload_n 0, 1)), (41, (.aload_n 1, 1)), (42, (.aload_n 2, 1)), (43, (.invokevirtual 65, 3)), (46, (.ireturn, 1)), (47, (.aload_n 0, 1))], [(48, (.iconst 2, 1)), (49, (.putfield 25, 3)), (52, (.aload_n 1, 1)), (53, (.ldc 68, 2)), (55, (.invokevirtual 70, 3)), (58, (.ifCond .ne 7, 3)), (61, (.iconst 0, 1)), (62, (.goto 4, 3))], [(65, (.iconst 1, 1)), (66, (.ireturn, 1)), (67, (.aload_n 0, 1)), (68, (.aload_n 1, 1)), (69, (.aload_n 2, 1)), (70, (.invokevirtual 74, 3)), (73, (.ireturn, 1)), (74, (.aload_n 0, 1)), (75, (.aload_n 1, 1)), (76, (.aload_n 2, 1)), (77, (.invokevirtual 77, 3))], [(80, (.ireturn, 1)), (81, (.aload_n 0, 1)), (82, (.aload_n 1, 1)), (83, (.aload_n 2, 1)), (84, (.invokevirtual 80, 3)), (87, (.ireturn, 1)), (88, (.aload_n 0, 1)), (89, (.iconst 0, 1)), (90, (.putfield 25, 3)), (93, (.aload_n 1, 1)), (94, (.bipush 59, 2))], [(96, (.invokevirtual 83, 3)), (99, (.ifCond .eq 7, 3)), (102, (.iconst 0, 1)), (103, (.goto 4, 3)), (106, (.iconst 1, 1)), (107, (.ireturn, 1))]]
set_option maxRecDepth 100000 in
def pmc_46 : pm_T (Instr × Nat) := [[(0, (.aload_n 1, 1)), (1, (.invokevirtual 62, 3)), (4, (.iconst 4, 1)), (5, (.if_icmp .ne 5, 3)), (8, (.iconst 0, 1)), (9, (.ireturn, 1)), (10, (.aload_n 1, 1)), (11, (.aload_n 0, 1)), (12, (.getfield 31, 3)), (15, (.invokevirtual 70, 3))], [(18, (.istore_n 3, 1)), (19, (.iload_n 3, 1)), (20, (.ifCond .lt 12, 3)), (23, (.iload_n 3, 1)), (24, (.aload_n 0, 1)), (25, (.getfield 38, 3)), (28, (.arraylength, 1)), (29, (.if_icmp .lt 5, 3))], [(32, (.iconst 1, 1)), (33, (.ireturn, 1)), (34, (.aload_n 2, 1)), (35, (.iload_n 3, 1)), (36, (.invokevirtual 87, 3)), (39, (.ifCond .eq 5, 3)), (42, (.iconst 3, 1)), (43, (.ireturn, 1)), (44, (.aload_n 0, 1)), (45, (.iload_n 3, 1)), (46, (.putfield 28, 3))], [(49, (.aload_n 2, 1)), (50, (.iload_n 3, 1)), (51, (.invokevirtual 91, 3)), (54, (.aload_n 0, 1)), (55, (.iconst 0, 1)), (56, (.putfield 15, 3)), (59, (.aload_n 0, 1)), (60, (.iconst 0, 1)), (61, (.putfield 19, 3))], [(64, (.aload_n 0, 1)), (65, (.iconst 0, 1)), (66, (.putfield 22, 3)), (69, (.aload_n 0, 1)), (70, (.getfield 38, 3)), (73, (.iload_n 3, 1)), (74, (.iaload, 1)), (75, (.iconst (-1), 1)), (76, (.if_icmp .ne 11, 3)), (79, (.aload_n 0, 1))], [(80, (.iconst 2, 1)), (81, (.putfield 25, 3)), (84, (.goto 23, 3)), (87, (.aload_n 0, 1)), (88, (.aload_n 0, 1)), (89, (.getfield 38, 3)), (92, (.iload_n 3, 1)), (93, (.iaload, 1)), (94, (.bipush (-2), 2))], [(96, (.if_icmp .ne 7, 3)), (99, (.iconst 1, 1)), (100, (.goto 4, 3)), (103, (.iconst 4, 1)), (104, (.putfield 25, 3)), (107, (.iconst 0, 1)), (108, (.ireturn, 1))]]
set_option maxRecDepth 100000 in
def pmc_47 : pm_T (Instr × Nat) := [[(0, (.aload_n 1, 1)), (1, (.ldc 102, 2)), (3, (.invokevirtual 70, 3)), (6, (.ifCond .ne 7, 3)), (9, (.iconst 1, 1)), (10, (.goto 4, 3)), (13, (.iconst 0, 1)), (14, (.istore_n 3, 1)), (15, (.aload_n 1, 1))], [(16, (.bipush 40, 2)), (18, (.invokevirtual 83, 3)), (21, (.istore 4, 2)), (23, (.aload_n 1, 1)), (24, (.invokevirtual 62, 3)), (27, (.iconst 2, 1)), (28, (.if_icmp .ne 7, 3)), (31, (.iconst 1, 1))], [(32, (.goto 4, 3)), (35, (.iconst 0, 1)), (36, (.istore 5, 2)), (38, (.aload_n 1, 1)), (39, (.aload_n 0, 1)), (40, (.getfield 35, 3)), (43, (.invokevirtual 70, 3)), (46, (.istore 6, 2))], [(48, (.iload_n 3, 1)), (49, (.ifCond .ne 21, 3)), (52, (.iload 4, 2)), (54, (.ifCond .ne 16, 3)), (57, (.iload 5, 2)), (59, (.ifCond .ne 11, 3)), (62, (.iload 6, 2))], [(64, (.iconst (-1), 1)), (65, (.if_icmp .ne 5, 3)), (68, (.iconst 1, 1)), (69, (.ireturn, 1)), (70, (.aload_n 0, 1)), (71, (.getfield 19, 3)), (74, (.iconst 5, 1)), (75, (.if_icmp .lt 5, 3)), (78, (.iconst 5, 1)), (79, (.ireturn, 1))], [(80, (.iload_n 3, 1)), (81, (.ifCond .ne 8, 3)), (84, (.iload 4, 2)), (86, (.ifCond .eq 49, 3)), (89, (.aload_n 0, 1)), (90, (.dup, 1)), (91, (.getfield 19, 3)), (94, (.iconst 1, 1)), (95, (.iadd, 1))], [(96, (.putfield 19, 3)), (99, (.aload_n 0, 1)), (100, (.dup, 1)), (101, (.getfield 22, 3)), (104, (.iload 4, 2)), (106, (.ifCond .eq 7, 3)), (109, (.iconst 1, 1)), (110, (.goto 4, 3))], [(113, (.iconst 0, 1)), (114, (.iadd, 1)), (115, (.putfield 22, 3)), (118, (.aload_n 0, 1)), (119, (.iload_n 3, 1)), (120, (.ifCond .eq 8, 3)), (123, (.bipush 8, 2)), (125, (.goto 5, 3))], [(128, (.bipush 9, 2)), (130, (.invokevirtual 104, 3)), (133, (.iconst 0, 1)), (134, (.ireturn, 1)), (135, (.aload_n 2, 1)), (136, (.aload_n 0, 1)), (137, (.getfield 28, 3)), (140, (.iload 5, 2)), (142, (.ifCond .eq 10, 3))], [(145, (.aload_n 1, 1)), (146, (.invokevirtual 95, 3)), (149, (.goto 9, 3)), (152, (.sipush 10000, 3)), (155, (.iload 6, 2)), (157, (.iadd, 1)), (158, (.invokevirtual 107, 3))], [(161, (.aload_n 0, 1)), (162, (.aload_n 2, 1)), (163, (.invokevirtual 110, 3)), (166, (.iconst 0, 1)), (167, (.ireturn, 1))]]
set_option maxRecDepth 100000 in
def pmc_48 : pm_T (Instr × Nat) := [[(0, (.aload_n 0, 1)), (1, (.getfield 15, 3)), (4, (.bipush 40, 2)), (6, (.if_icmp .ge 23, 3)), (9, (.aload_n 0, 1)), (10, (.getfield 11, 3)), (13, (.aload_n 0, 1)), (14, (.getfield 15, 3))], [(17, (.iload_n 1, 1)), (18, (.iastore, 1)), (19, (.aload_n 0, 1)), (20, (.dup, 1)), (21, (.getfield 15, 3)), (24, (.iconst 1, 1)), (25, (.iadd, 1)), (26, (.putfield 15, 3)), (29, (.return_, 1))]]
set_option maxRecDepth 100000 in
def pmc_49 : pm_T (Instr × Nat) := [[(0, (.aload_n 0, 1)), (1, (.getfield 15, 3)), (4, (.ifCond .le 52, 3)), (7, (.aload_n 0, 1)), (8, (.getfield 11, 3)), (11, (.aload_n 0, 1)), (12, (.getfield 15, 3)), (15, (.iconst 1, 1))], [(16, (.isub, 1)), (17, (.iaload, 1)), (18, (.bipush 8, 2)), (20, (.if_icmp .ne 36, 3)), (23, (.aload_n 1, 1)), (24, (.aload_n 0, 1)), (25, (.getfield 28, 3)), (28, (.bipush (-8), 2)), (30, (.invokevirtual 107, 3))], [(33, (.aload_n 0, 1)), (34, (.dup, 1)), (35, (.getfield 15, 3)), (38, (.iconst 1, 1)), (39, (.isub, 1)), (40, (.putfield 15, 3)), (43, (.aload_n 0, 1)), (44, (.dup, 1)), (45, (.getfield 19, 3))], [(48, (.iconst 1, 1)), (49, (.isub, 1)), (50, (.putfield 19, 3)), (53, (.goto (-53), 3)), (56, (.aload_n 0, 1)), (57, (.iconst 3, 1)), (58, (.putfield 25, 3)), (61, (.return_, 1))]]
set_option maxRecDepth 100000 in
def pmc_50 : pm_T (Instr × Nat) := [[(0, (.aload_n 1, 1)), (1, (.bipush 59, 2)), (3, (.invokevirtual 83, 3)), (6, (.ifCond .eq 9, 3)), (9, (.aload_n 0, 1)), (10, (.aload_n 2, 1)), (11, (.invokevirtual 114, 3)), (14, (.ireturn, 1)), (15, (.aload_n 1, 1))], [(16, (.bipush 41, 2)), (18, (.invokevirtual 83, 3)), (21, (.ifCond .eq 9, 3)), (24, (.aload_n 0, 1)), (25, (.aload_n 2, 1)), (26, (.invokevirtual 118, 3)), (29, (.ireturn, 1)), (30, (.aload_n 1, 1)), (31, (.invokestatic 121, 3))], [(34, (.istore_n 3, 1)), (35, (.iload_n 3, 1)), (36, (.iconst (-1), 1)), (37, (.if_icmp .ne 5, 3)), (40, (.iconst 1, 1)), (41, (.ireturn, 1)), (42, (.getstatic 125, 3)), (45, (.iload_n 3, 1)), (46, (.iaload, 1)), (47, (.istore 4, 2))], [(49, (.iload 4, 2)), (51, (.iconst 2, 1)), (52, (.if_icmp .ne 19, 3)), (55, (.aload_n 0, 1)), (56, (.iconst 3, 1)), (57, (.aload_n 2, 1)), (58, (.invokevirtual 128, 3)), (61, (.aload_n 0, 1)), (62, (.invokevirtual 132, 3))], [(65, (.iconst 2, 1)), (66, (.if_icmp .ne 5, 3)), (69, (.iconst 1, 1)), (70, (.ireturn, 1)), (71, (.aload_n 0, 1)), (72, (.iload 4, 2)), (74, (.aload_n 2, 1)), (75, (.invokevirtual 128, 3)), (78, (.aload_n 0, 1)), (79, (.iload_n 3, 1))], [(80, (.invokevirtual 104, 3)), (83, (.aload_n 0, 1)), (84, (.iconst 2, 1)), (85, (.putfield 25, 3)), (88, (.iconst 0, 1)), (89, (.ireturn, 1))]]
set_option maxRecDepth 100000 in
def pmc_51 : pm_T (Instr × Nat) := [[(0, (.aload_n 0, 1)), (1, (.getfield 22, 3)), (4, (.ifCond .le 5, 3)), (7, (.iconst 1, 1)), (8, (.ireturn, 1)), (9, (.aload_n 0, 1)), (10, (.iconst 1, 1)), (11, (.aload_n 1, 1)), (12, (.invokevirtual 128, 3)), (15, (.aload_n 0, 1))], [(16, (.iconst 0, 1)), (17, (.putfield 25, 3)), (20, (.iconst 0, 1)), (21, (.ireturn, 1))]]
set_option maxRecDepth 100000 in
def pmc_52 : pm_T (Instr × Nat) := [[(0, (.aload_n 0, 1)), (1, (.getfield 15, 3)), (4, (.ifCond .le 44, 3)), (7, (.aload_n 0, 1)), (8, (.invokevirtual 132, 3)), (11, (.iload_n 1, 1)), (12, (.if_icmp .lt 36, 3)), (15, (.aload_n 2, 1))], [(16, (.aload_n 0, 1)), (17, (.getfield 28, 3)), (20, (.aload_n 0, 1)), (21, (.getfield 11, 3)), (24, (.aload_n 0, 1)), (25, (.getfield 15, 3)), (28, (.iconst 1, 1)), (29, (.isub, 1)), (30, (.iaload, 1)), (31, (.ineg, 1))], [(32, (.invokevirtual 107, 3)), (35, (.aload_n 0, 1)), (36, (.dup, 1)), (37, (.getfield 15, 3)), (40, (.iconst 1, 1)), (41, (.isub, 1)), (42, (.putfield 15, 3)), (45, (.goto (-45), 3))], [(48, (.return_, 1))]]
set_option maxRecDepth 100000 in
def pmc_53 : pm_T (Instr × Nat) := [[(0, (.aload_n 0, 1)), (1, (.getfield 15, 3)), (4, (.ifCond .le 21, 3)), (7, (.getstatic 125, 3)), (10, (.aload_n 0, 1)), (11, (.getfield 11, 3)), (14, (.aload_n 0, 1)), (15, (.getfield 15, 3))], [(18, (.iconst 1, 1)), (19, (.isub, 1)), (20, (.iaload, 1)), (21, (.iaload, 1)), (22, (.goto 4, 3)), (25, (.iconst 0, 1)), (26, (.ireturn, 1))]]
set_option maxRecDepth 100000 in
def pmc_54 : pm_T (Instr × Nat) := [[(0, (.aload_n 0, 1)), (1, (.getfield 22, 3)), (4, (.ifCond .ne 5, 3)), (7, (.iconst 1, 1)), (8, (.ireturn, 1)), (9, (.aload_n 0, 1)), (10, (.iconst 1, 1)), (11, (.aload_n 1, 1)), (12, (.invokevirtual 128, 3)), (15, (.aload_n 0, 1))], [(16, (.dup, 1)), (17, (.getfield 15, 3)), (20, (.iconst 1, 1)), (21, (.isub, 1)), (22, (.putfield 15, 3)), (25, (.aload_n 0, 1)), (26, (.dup, 1)), (27, (.getfield 19, 3)), (30, (.iconst 1, 1)), (31, (.isub, 1))], [(32, (.putfield 19, 3)), (35, (.aload_n 0, 1)), (36, (.dup, 1)), (37, (.getfield 22, 3)), (40, (.iconst 1, 1)), (41, (.isub, 1)), (42, (.putfield 22, 3)), (45, (.aload_n 0, 1)), (46, (.aload_n 1, 1)), (47, (.invokevirtual 110, 3))], [(50, (.iconst 0, 1)), (51, (.ireturn, 1))]]
set_option maxRecDepth 100000 in
def pmc_55 : pm_T (Instr × Nat) := [[(0, (.aload_n 0, 1)), (1, (.ldc 135, 2)), (3, (.invokevirtual 70, 3)), (6, (.istore_n 1, 1)), (7, (.iload_n 1, 1)), (8, (.iconst (-1), 1)), (9, (.if_icmp .eq 13, 3)), (12, (.iload_n 1, 1)), (13, (.ifCond .ne 7, 3))], [(16, (.iconst 1, 1)), (17, (.goto 4, 3)), (20, (.iconst 2, 1)), (21, (.ireturn, 1)), (22, (.aload_n 0, 1)), (23, (.invokevirtual 62, 3)), (26, (.iconst 3, 1)), (27, (.if_icmp .eq 5, 3)), (30, (.iconst (-1), 1)), (31, (.ireturn, 1))], [(32, (.aload_n 0, 1)), (33, (.invokevirtual 95, 3)), (36, (.lookupswitch 64 #[(42, 61), (43, 56), (45, 58), (60, 52), (61, 54)], 52))], [], [], [(88, (.iconst 3, 1)), (89, (.ireturn, 1)), (90, (.iconst 4, 1)), (91, (.ireturn, 1)), (92, (.iconst 5, 1)), (93, (.ireturn, 1)), (94, (.bipush 6, 2))], [(96, (.ireturn, 1)), (97, (.bipush 7, 2)), (99, (.ireturn, 1)), (100, (.iconst (-1), 1)), (101, (.ireturn, 1))]]
set_option maxRecDepth 100000 in
def pmc_56 : pm_T (Instr × Nat) := [[(0, (.aload_n 1, 1)), (1, (.invokevirtual 62, 3)), (4, (.iconst 2, 1)), (5, (.if_icmp .eq 5, 3)), (8, (.iconst 1, 1)), (9, (.ireturn, 1)), (10, (.aload_n 1, 1)), (11, (.invokevirtual 95, 3)), (14, (.aload_n 0, 1)), (15, (.getfield 38, 3))], [(18, (.aload_n 0, 1)), (19, (.getfield 28, 3)), (22, (.iaload, 1)), (23, (.if_icmp .le 5, 3)), (26, (.iconst 4, 1)), (27, (.ireturn, 1)), (28, (.aload_n 2, 1)), (29, (.aload_n 0, 1)), (30, (.getfield 28, 3))], [(33, (.aload_n 1, 1)), (34, (.invokevirtual 95, 3)), (37, (.invokevirtual 98, 3)), (40, (.aload_n 0, 1)), (41, (.iconst 5, 1)), (42, (.putfield 25, 3)), (45, (.iconst 0, 1)), (46, (.ireturn, 1))]]
set_option maxRecDepth 100000 in
def pmc_57 : pm_T (Instr × Nat) := [[(0, (.aload_n 0, 1)), (1, (.invokespecial 3, 3)), (4, (.aload_n 0, 1)), (5, (.bipush 24, 2)), (7, (.newarray .boolean, 2)), (9, (.putfield 9, 3)), (12, (.aload_n 0, 1)), (13, (.bipush 24, 2)), (15, (.newarray .boolean, 2))], [(17, (.putfield 15, 3)), (20, (.aload_n 0, 1)), (21, (.bipush 24, 2)), (23, (.newarray .int, 2)), (25, (.putfield 18, 3)), (28, (.aload_n 0, 1)), (29, (.bipush 24, 2)), (31, (.newarray .int, 2))], [(33, (.putfield 22, 3)), (36, (.aload_n 0, 1)), (37, (.bipush 24, 2)), (39, (.newarray .int, 2)), (41, (.putfield 25, 3)), (44, (.return_, 1))]]
set_option maxRecDepth 100000 in
def pmc_58 : pm_T (Instr × Nat) := [[(0, (.aload_n 0, 1)), (1, (.getfield 9, 3)), (4, (.iload_n 1, 1)), (5, (.iconst 1, 1)), (6, (.bastore, 1)), (7, (.aload_n 0, 1)), (8, (.getfield 15, 3)), (11, (.iload_n 1, 1)), (12, (.iload 5, 2)), (14, (.bastore, 1)), (15, (.aload_n 0, 1))], [(16, (.getfield 18, 3)), (19, (.iload_n 1, 1)), (20, (.iload_n 2, 1)), (21, (.iastore, 1)), (22, (.aload_n 0, 1)), (23, (.getfield 22, 3)), (26, (.iload_n 1, 1)), (27, (.iload_n 3, 1)), (28, (.iastore, 1)), (29, (.aload_n 0, 1)), (30, (.getfield 25, 3))], [(33, (.iload_n 1, 1)), (34, (.iload 4, 2)), (36, (.iastore, 1)), (37, (.return_, 1))]]
set_option maxRecDepth 100000 in
def pmc_59 : pm_T (Instr × Nat) := [[(0, (.aload_n 0, 1)), (1, (.getfield 9, 3)), (4, (.iload_n 1, 1)), (5, (.baload, 1)), (6, (.ireturn, 1))]]
set_option maxRecDepth 100000 in
def pmc_60 : pm_T (Instr × Nat) := [[(0, (.aload_n 0, 1)), (1, (.getfield 18, 3)), (4, (.iload_n 1, 1)), (5, (.iaload, 1)), (6, (.ireturn, 1))]]
set_option maxRecDepth 100000 in
def pmc_61 : pm_T (Instr × Nat) := [[(0, (.aload_n 0, 1)), (1, (.getfield 25, 3)), (4, (.iload_n 1, 1)), (5, (.iaload, 1)), (6, (.ireturn, 1))]]
set_option maxRecDepth 100000 in
def pmc_62 : pm_T (Instr × Nat) := [[(0, (.iconst 0, 1)), (1, (.istore_n 2, 1)), (2, (.iconst 0, 1)), (3, (.istore_n 3, 1)), (4, (.iload_n 3, 1)), (5, (.bipush 24, 2)), (7, (.if_icmp .ge 26, 3)), (10, (.iload_n 2, 1)), (11, (.aload_n 0, 1)), (12, (.iload_n 3, 1)), (13, (.iload_n 1, 1)), (14, (.invokevirtual 28, 3))], [(17, (.ifCond .eq 7, 3)), (20, (.iconst 1, 1)), (21, (.goto 4, 3)), (24, (.iconst 0, 1)), (25, (.iadd, 1)), (26, (.istore_n 2, 1)), (27, (.iinc 3 1, 3)), (30, (.goto (-26), 3))], [(33, (.iload_n 2, 1)), (34, (.ireturn, 1))]]
set_option maxRecDepth 100000 in
def pmc_63 : pm_T (Instr × Nat) := [[(0, (.aload_n 0, 1)), (1, (.getfield 9, 3)), (4, (.iload_n 1, 1)), (5, (.baload, 1)), (6, (.ifCond .eq 17, 3)), (9, (.aload_n 0, 1)), (10, (.getfield 18, 3)), (13, (.iload_n 1, 1)), (14, (.iaload, 1)), (15, (.iload_n 2, 1))], [(16, (.if_icmp .ne 7, 3)), (19, (.iconst 1, 1)), (20, (.goto 4, 3)), (23, (.iconst 0, 1)), (24, (.ireturn, 1))]]
set_option maxRecDepth 100000 in
def pmc_64 : pm_T (Instr × Nat) := [[(0, (.aload_n 0, 1)), (1, (.getfield 22, 3)), (4, (.iload_n 1, 1)), (5, (.iaload, 1)), (6, (.ireturn, 1))]]
set_option maxRecDepth 100000 in
def pmc_65 : pm_T (Instr × Nat) := [[(0, (.aload_n 0, 1)), (1, (.getfield 15, 3)), (4, (.iload_n 1, 1)), (5, (.baload, 1)), (6, (.ireturn, 1))]]
set_option maxRecDepth 100000 in
def pmc_66 : pm_T (Instr × Nat) := [[(0, (.iconst 0, 1)), (1, (.istore_n 1, 1)), (2, (.iconst 0, 1)), (3, (.istore_n 2, 1)), (4, (.iload_n 2, 1)), (5, (.bipush 24, 2)), (7, (.if_icmp .ge 35, 3)), (10, (.iload_n 1, 1)), (11, (.aload_n 0, 1)), (12, (.getfield 9, 3)), (15, (.iload_n 2, 1))], [(16, (.baload, 1)), (17, (.ifCond .eq 16, 3)), (20, (.aload_n 0, 1)), (21, (.getfield 15, 3)), (24, (.iload_n 2, 1)), (25, (.baload, 1)), (26, (.ifCond .eq 7, 3)), (29, (.iconst 1, 1)), (30, (.goto 4, 3))], [(33, (.iconst 0, 1)), (34, (.iadd, 1)), (35, (.istore_n 1, 1)), (36, (.iinc 2 1, 3)), (39, (.goto (-35), 3)), (42, (.iload_n 1, 1)), (43, (.ireturn, 1))]]
set_option maxRecDepth 100000 in
def pmc_67 : pm_T (Instr × Nat) := [[(0, (.aload_n 0, 1)), (1, (.invokespecial 1, 3)), (4, (.aload_n 0, 1)), (5, (.iconst 0, 1)), (6, (.putfield 7, 3)), (9, (.aload_n 0, 1)), (10, (.iconst 4, 1)), (11, (.newarray .boolean, 2)), (13, (.putfield 13, 3))], [(16, (.aload_n 0, 1)), (17, (.iconst 4, 1)), (18, (.newarray .int, 2)), (20, (.putfield 17, 3)), (23, (.aload_n 0, 1)), (24, (.iconst 4, 1)), (25, (.newarray .int, 2)), (27, (.putfield 21, 3)), (30, (.aload_n 0, 1)), (31, (.iconst 4, 1))], [(32, (.newarray .int, 2)), (34, (.putfield 24, 3)), (37, (.aload_n 0, 1)), (38, (.bipush 40, 2)), (40, (.newarray .int, 2)), (42, (.putfield 27, 3)), (45, (.aload_n 0, 1)), (46, (.iload_n 1, 1)), (47, (.newarray .int, 2))], [(49, (.putfield 30, 3)), (52, (.return_, 1))]]
set_option maxRecDepth 100000 in
def pmc_68 : pm_T (Instr × Nat) := [[(0, (.aload_n 0, 1)), (1, (.iconst 0, 1)), (2, (.putfield 7, 3)), (5, (.iconst 0, 1)), (6, (.istore_n 1, 1)), (7, (.iload_n 1, 1)), (8, (.iconst 4, 1)), (9, (.if_icmp .ge 16, 3)), (12, (.aload_n 0, 1)), (13, (.getfield 13, 3))], [(16, (.iload_n 1, 1)), (17, (.iconst 0, 1)), (18, (.bastore, 1)), (19, (.iinc 1 1, 3)), (22, (.goto (-15), 3)), (25, (.return_, 1))]]
set_option maxRecDepth 100000 in
def pmc_69 : pm_T (Instr × Nat) := [[(0, (.aload_n 0, 1)), (1, (.getfield 13, 3)), (4, (.iload_n 1, 1)), (5, (.baload, 1)), (6, (.ireturn, 1))]]
set_option maxRecDepth 100000 in
def pmc_70 : pm_T (Instr × Nat) := [[(0, (.aload_n 0, 1)), (1, (.getfield 13, 3)), (4, (.iload_n 1, 1)), (5, (.iconst 1, 1)), (6, (.bastore, 1)), (7, (.aload_n 0, 1)), (8, (.getfield 17, 3)), (11, (.iload_n 1, 1)), (12, (.aload_n 0, 1)), (13, (.getfield 7, 3))], [(16, (.iastore, 1)), (17, (.aload_n 0, 1)), (18, (.getfield 21, 3)), (21, (.iload_n 1, 1)), (22, (.aload_n 0, 1)), (23, (.getfield 7, 3)), (26, (.iastore, 1)), (27, (.return_, 1))]]
set_option maxRecDepth 100000 in
def pmc_71 : pm_T (Instr × Nat) := [[(0, (.aload_n 0, 1)), (1, (.getfield 7, 3)), (4, (.aload_n 0, 1)), (5, (.getfield 30, 3)), (8, (.arraylength, 1)), (9, (.if_icmp .ge 33, 3)), (12, (.aload_n 0, 1)), (13, (.getfield 30, 3))], [(16, (.aload_n 0, 1)), (17, (.getfield 7, 3)), (20, (.iload_n 2, 1)), (21, (.iastore, 1)), (22, (.aload_n 0, 1)), (23, (.dup, 1)), (24, (.getfield 7, 3)), (27, (.iconst 1, 1)), (28, (.iadd, 1)), (29, (.putfield 7, 3))], [(32, (.aload_n 0, 1)), (33, (.getfield 21, 3)), (36, (.iload_n 1, 1)), (37, (.aload_n 0, 1)), (38, (.getfield 7, 3)), (41, (.iastore, 1)), (42, (.return_, 1))]]
set_option maxRecDepth 100000 in
def pmc_72 : pm_T (Instr × Nat) := [[(0, (.aload_n 0, 1)), (1, (.getfield 24, 3)), (4, (.iload_n 1, 1)), (5, (.iload_n 2, 1)), (6, (.iastore, 1)), (7, (.return_, 1))]]
set_option maxRecDepth 100000 in
def pmc_73 : pm_T (Instr × Nat) := [[(0, (.aload_n 0, 1)), (1, (.aload_n 1, 1)), (2, (.getfield 30, 3)), (5, (.aload_n 1, 1)), (6, (.getfield 7, 3)), (9, (.invokestatic 33, 3)), (12, (.putfield 30, 3)), (15, (.aload_n 0, 1))], [(16, (.aload_n 1, 1)), (17, (.getfield 7, 3)), (20, (.putfield 7, 3)), (23, (.iconst 0, 1)), (24, (.istore_n 2, 1)), (25, (.iload_n 2, 1)), (26, (.iconst 4, 1)), (27, (.if_icmp .ge 57, 3)), (30, (.aload_n 0, 1)), (31, (.getfield 13, 3))], [(34, (.iload_n 2, 1)), (35, (.aload_n 1, 1)), (36, (.getfield 13, 3)), (39, (.iload_n 2, 1)), (40, (.baload, 1)), (41, (.bastore, 1)), (42, (.aload_n 0, 1)), (43, (.getfield 17, 3)), (46, (.iload_n 2, 1)), (47, (.aload_n 1, 1))], [(48, (.getfield 17, 3)), (51, (.iload_n 2, 1)), (52, (.iaload, 1)), (53, (.iastore, 1)), (54, (.aload_n 0, 1)), (55, (.getfield 21, 3)), (58, (.iload_n 2, 1)), (59, (.aload_n 1, 1)), (60, (.getfield 21, 3)), (63, (.iload_n 2, 1))], [(64, (.iaload, 1)), (65, (.iastore, 1)), (66, (.aload_n 0, 1)), (67, (.getfield 24, 3)), (70, (.iload_n 2, 1)), (71, (.aload_n 1, 1)), (72, (.getfield 24, 3)), (75, (.iload_n 2, 1)), (76, (.iaload, 1)), (77, (.iastore, 1)), (78, (.iinc 2 1, 3))], [(81, (.goto (-56), 3)), (84, (.return_, 1))]]
set_option maxRecDepth 100000 in
def pmc_74 : pm_T (Instr × Nat) := [[(0, (.aload_n 0, 1)), (1, (.getfield 13, 3)), (4, (.iload_n 1, 1)), (5, (.baload, 1)), (6, (.ifCond .eq 12, 3)), (9, (.aload_n 0, 1)), (10, (.iload_n 1, 1)), (11, (.aload_n 2, 1)), (12, (.invokevirtual 39, 3)), (15, (.goto 4, 3))], [(18, (.iload_n 3, 1)), (19, (.ireturn, 1))]]
set_option maxRecDepth 100000 in
def pmc_75 : pm_T (Instr × Nat) := [[(0, (.iconst 0, 1)), (1, (.istore_n 3, 1)), (2, (.aload_n 0, 1)), (3, (.getfield 17, 3)), (6, (.iload_n 1, 1)), (7, (.iaload, 1)), (8, (.istore 4, 2)), (10, (.iload 4, 2)), (12, (.aload_n 0, 1)), (13, (.getfield 21, 3))], [(16, (.iload_n 1, 1)), (17, (.iaload, 1)), (18, (.if_icmp .ge 66, 3)), (21, (.iload 4, 2)), (23, (.aload_n 0, 1)), (24, (.getfield 30, 3)), (27, (.arraylength, 1)), (28, (.if_icmp .ge 56, 3)), (31, (.aload_n 0, 1))], [(32, (.getfield 30, 3)), (35, (.iload 4, 2)), (37, (.iaload, 1)), (38, (.istore 5, 2)), (40, (.iload 5, 2)), (42, (.ifCond .ge 15, 3)), (45, (.aload_n 0, 1)), (46, (.iload 5, 2))], [(48, (.ineg, 1)), (49, (.iload_n 3, 1)), (50, (.invokevirtual 43, 3)), (53, (.istore_n 3, 1)), (54, (.goto 24, 3)), (57, (.iload_n 3, 1)), (58, (.bipush 40, 2)), (60, (.if_icmp .ge 18, 3)), (63, (.aload_n 0, 1))], [(64, (.getfield 27, 3)), (67, (.iload_n 3, 1)), (68, (.iload 5, 2)), (70, (.aload_n 2, 1)), (71, (.invokestatic 47, 3)), (74, (.iastore, 1)), (75, (.iinc 3 1, 3)), (78, (.iinc 4 1, 3))], [(81, (.goto (-71), 3)), (84, (.aload_n 0, 1)), (85, (.getfield 27, 3)), (88, (.iconst 0, 1)), (89, (.iaload, 1)), (90, (.ireturn, 1))]]
set_option maxRecDepth 100000 in
def pmc_76 : pm_T (Instr × Nat) := [[(0, (.iload_n 1, 1)), (1, (.bipush 8, 2)), (3, (.if_icmp .ne 34, 3)), (6, (.iload_n 2, 1)), (7, (.iconst 1, 1)), (8, (.if_icmp .lt 27, 3)), (11, (.aload_n 0, 1)), (12, (.getfield 27, 3)), (15, (.iload_n 2, 1))], [(16, (.iconst 1, 1)), (17, (.isub, 1)), (18, (.aload_n 0, 1)), (19, (.getfield 27, 3)), (22, (.iload_n 2, 1)), (23, (.iconst 1, 1)), (24, (.isub, 1)), (25, (.iaload, 1)), (26, (.ifCond .ne 7, 3)), (29, (.iconst 1, 1)), (30, (.goto 4, 3))], [(33, (.iconst 0, 1)), (34, (.iastore, 1)), (35, (.iload_n 2, 1)), (36, (.ireturn, 1)), (37, (.iload_n 2, 1)), (38, (.iconst 2, 1)), (39, (.if_icmp .ge 5, 3)), (42, (.iload_n 2, 1)), (43, (.ireturn, 1)), (44, (.aload_n 0, 1)), (45, (.getfield 27, 3))], [(48, (.iload_n 2, 1)), (49, (.iconst 2, 1)), (50, (.isub, 1)), (51, (.iload_n 1, 1)), (52, (.aload_n 0, 1)), (53, (.getfield 27, 3)), (56, (.iload_n 2, 1)), (57, (.iconst 2, 1)), (58, (.isub, 1)), (59, (.iaload, 1)), (60, (.aload_n 0, 1)), (61, (.getfield 27, 3))], [(64, (.iload_n 2, 1)), (65, (.iconst 1, 1)), (66, (.isub, 1)), (67, (.iaload, 1)), (68, (.invokestatic 50, 3)), (71, (.iastore, 1)), (72, (.iload_n 2, 1)), (73, (.iconst 1, 1)), (74, (.isub, 1)), (75, (.ireturn, 1))]]
set_option maxRecDepth 100000 in
def pmc_77 : pm_T (Instr × Nat) := [[(0, (.iload_n 0, 1)), (1, (.tableswitch 97 1 6 #[39, 53, 67, 78, 89, 93], 39))], [], [(40, (.iload_n 1, 1)), (41, (.ifCond .eq 11, 3)), (44, (.iload_n 2, 1)), (45, (.ifCond .eq 7, 3))], [(48, (.iconst 1, 1)), (49, (.goto 4, 3)), (52, (.iconst 0, 1)), (53, (.ireturn, 1)), (54, (.iload_n 1, 1)), (55, (.ifCond .ne 7, 3)), (58, (.iload_n 2, 1)), (59, (.ifCond .eq 7, 3)), (62, (.iconst 1, 1)), (63, (.goto 4, 3))], [(66, (.iconst 0, 1)), (67, (.ireturn, 1)), (68, (.iload_n 1, 1)), (69, (.iload_n 2, 1)), (70, (.if_icmp .ge 7, 3)), (73, (.iconst 1, 1)), (74, (.goto 4, 3)), (77, (.iconst 0, 1)), (78, (.ireturn, 1)), (79, (.iload_n 1, 1))], [(80, (.iload_n 2, 1)), (81, (.if_icmp .ne 7, 3)), (84, (.iconst 1, 1)), (85, (.goto 4, 3)), (88, (.iconst 0, 1)), (89, (.ireturn, 1)), (90, (.iload_n 1, 1)), (91, (.iload_n 2, 1)), (92, (.iadd, 1)), (93, (.ireturn, 1)), (94, (.iload_n 1, 1)), (95, (.iload_n 2, 1))], [(96, (.isub, 1)), (97, (.ireturn, 1)), (98, (.iload_n 1, 1)), (99, (.iload_n 2, 1)), (100, (.imul, 1)), (101, (.ireturn, 1))]]
set_option maxRecDepth 100000 in
def pmc_78 : pm_T (Instr × Nat) := [[(0, (.iload_n 0, 1)), (1, (.sipush 10000, 3)), (4, (.isub, 1)), (5, (.istore_n 2, 1)), (6, (.iload_n 2, 1)), (7, (.ifCond .ge 5, 3)), (10, (.iload_n 0, 1)), (11, (.ireturn, 1)), (12, (.iload_n 2, 1)), (13, (.aload_n 1, 1)), (14, (.arraylength, 1)), (15, (.if_icmp .ge 9, 3))], [(18, (.aload_n 1, 1)), (19, (.iload_n 2, 1)), (20, (.iaload, 1)), (21, (.goto 4, 3)), (24, (.iconst 0, 1)), (25, (.ireturn, 1))]]
set_option maxRecDepth 100000 in
def pmc_79 : pm_T (Instr × Nat) := [[(0, (.aload_n 0, 1)), (1, (.getfield 13, 3)), (4, (.iload_n 1, 1)), (5, (.baload, 1)), (6, (.ifCond .eq 12, 3)), (9, (.aload_n 0, 1)), (10, (.getfield 24, 3)), (13, (.iload_n 1, 1)), (14, (.iaload, 1)), (15, (.goto 4, 3))], [(18, (.iload_n 2, 1)), (19, (.ireturn, 1))]]
set_option maxRecDepth 100000 in
def pmc_80 : pm_T (Instr × Nat) := [[(0, (.aload_n 0, 1)), (1, (.invokespecial 3, 3)), (4, (.aload_n 0, 1)), (5, (.bipush 24, 2)), (7, (.newarray .int, 2)), (9, (.putfield 9, 3)), (12, (.aload_n 0, 1)), (13, (.bipush 24, 2)), (15, (.newarray .int, 2))], [(17, (.putfield 15, 3)), (20, (.aload_n 0, 1)), (21, (.bipush 24, 2)), (23, (.newarray .int, 2)), (25, (.putfield 18, 3)), (28, (.aload_n 0, 1)), (29, (.sipush 512, 3))], [(32, (.newarray .int, 2)), (34, (.putfield 21, 3)), (37, (.aload_n 0, 1)), (38, (.sipush 512, 3)), (41, (.newarray .int, 2)), (43, (.putfield 24, 3)), (46, (.return_, 1))]]
set_option maxRecDepth 100000 in
def pmc_81 : pm_T (Instr × Nat) := [[(0, (.aload_n 0, 1)), (1, (.getfield 9, 3)), (4, (.iconst (-1), 1)), (5, (.invokestatic 27, 3)), (8, (.return_, 1))]]
set_option maxRecDepth 100000 in
def pmc_82 : pm_T (Instr × Nat) := [[(0, (.aload_n 0, 1)), (1, (.getfield 9, 3)), (4, (.iload_n 1, 1)), (5, (.iload_n 2, 1)), (6, (.iastore, 1)), (7, (.aload_n 0, 1)), (8, (.getfield 15, 3)), (11, (.iload_n 1, 1)), (12, (.iload_n 3, 1)), (13, (.iastore, 1)), (14, (.return_, 1))]]
set_option maxRecDepth 100000 in
def pmc_83 : pm_T (Instr × Nat) := [[(0, (.aload_n 0, 1)), (1, (.iconst 0, 1)), (2, (.invokevirtual 33, 3)), (5, (.i2l, 1)), (6, (.lstore_n 2, 1)), (7, (.aload_n 0, 1)), (8, (.iconst 1, 1)), (9, (.invokevirtual 33, 3)), (12, (.i2l, 1)), (13, (.lstore 4, 2)), (15, (.lload_n 2, 1))], [(16, (.lconst 0, 1)), (17, (.lcmp, 1)), (18, (.ifCond .eq 10, 3)), (21, (.lload 4, 2)), (23, (.lconst 0, 1)), (24, (.lcmp, 1)), (25, (.ifCond .ne 5, 3)), (28, (.iconst 0, 1)), (29, (.ireturn, 1)), (30, (.aload_n 1, 1)), (31, (.aload_n 0, 1))], [(32, (.iconst 0, 1)), (33, (.invokevirtual 37, 3)), (36, (.i2l, 1)), (37, (.lload 4, 2)), (39, (.lmul, 1)), (40, (.aload_n 0, 1)), (41, (.iconst 1, 1)), (42, (.invokevirtual 37, 3)), (45, (.i2l, 1)), (46, (.lload_n 2, 1)), (47, (.lmul, 1))], [(48, (.lsub, 1)), (49, (.lload_n 2, 1)), (50, (.lload 4, 2)), (52, (.lmul, 1)), (53, (.invokevirtual 40, 3)), (56, (.iconst 1, 1)), (57, (.ireturn, 1))]]
set_option maxRecDepth 100000 in
def pmc_84 : pm_T (Instr × Nat) := [[(0, (.iconst 0, 1)), (1, (.istore_n 2, 1)), (2, (.iconst 0, 1)), (3, (.istore_n 3, 1)), (4, (.iload_n 3, 1)), (5, (.bipush 24, 2)), (7, (.if_icmp .ge 27, 3)), (10, (.iload_n 2, 1)), (11, (.aload_n 0, 1)), (12, (.getfield 9, 3)), (15, (.iload_n 3, 1))], [(16, (.iaload, 1)), (17, (.iload_n 1, 1)), (18, (.if_icmp .ne 7, 3)), (21, (.iconst 1, 1)), (22, (.goto 4, 3)), (25, (.iconst 0, 1)), (26, (.iadd, 1)), (27, (.istore_n 2, 1)), (28, (.iinc 3 1, 3)), (31, (.goto (-27), 3))], [(34, (.iload_n 2, 1)), (35, (.ireturn, 1))]]
set_option maxRecDepth 100000 in
def pmc_85 : pm_T (Instr × Nat) := [[(0, (.iconst 0, 1)), (1, (.istore_n 2, 1)), (2, (.iconst 0, 1)), (3, (.istore_n 3, 1)), (4, (.iload_n 3, 1)), (5, (.bipush 24, 2)), (7, (.if_icmp .ge 32, 3)), (10, (.iload_n 2, 1)), (11, (.aload_n 0, 1)), (12, (.getfield 9, 3)), (15, (.iload_n 3, 1))], [(16, (.iaload, 1)), (17, (.iload_n 1, 1)), (18, (.if_icmp .ne 12, 3)), (21, (.aload_n 0, 1)), (22, (.getfield 15, 3)), (25, (.iload_n 3, 1)), (26, (.iaload, 1)), (27, (.goto 4, 3)), (30, (.iconst 0, 1)), (31, (.iadd, 1))], [(32, (.istore_n 2, 1)), (33, (.iinc 3 1, 3)), (36, (.goto (-32), 3)), (39, (.iload_n 2, 1)), (40, (.ireturn, 1))]]
set_option maxRecDepth 100000 in
def pmc_86 : pm_T (Instr × Nat) := [[(0, (.aload_n 0, 1)), (1, (.iconst 0, 1)), (2, (.invokevirtual 33, 3)), (5, (.ifCond .eq 11, 3)), (8, (.aload_n 0, 1)), (9, (.iconst 1, 1)), (10, (.invokevirtual 33, 3)), (13, (.ifCond .ne 7, 3))], [(16, (.iconst 1, 1)), (17, (.goto 4, 3)), (20, (.iconst 0, 1)), (21, (.ireturn, 1))]]
set_option maxRecDepth 100000 in
def pmc_87 : pm_T (Instr × Nat) := [[(0, (.aload_n 0, 1)), (1, (.iconst 0, 1)), (2, (.invokevirtual 33, 3)), (5, (.istore_n 2, 1)), (6, (.iload_n 2, 1)), (7, (.aload_n 0, 1)), (8, (.iconst 1, 1)), (9, (.invokevirtual 33, 3)), (12, (.iadd, 1)), (13, (.istore_n 3, 1)), (14, (.aload_n 0, 1)), (15, (.iconst 0, 1))], [(16, (.invokevirtual 37, 3)), (19, (.aload_n 0, 1)), (20, (.iconst 1, 1)), (21, (.invokevirtual 37, 3)), (24, (.iadd, 1)), (25, (.istore 4, 2)), (27, (.aload_n 0, 1)), (28, (.iconst 0, 1)), (29, (.invokevirtual 37, 3))], [(32, (.iload_n 3, 1)), (33, (.imul, 1)), (34, (.iload 4, 2)), (36, (.iload_n 2, 1)), (37, (.imul, 1)), (38, (.isub, 1)), (39, (.invokestatic 53, 3)), (42, (.istore 5, 2)), (44, (.aload_n 0, 1)), (45, (.invokevirtual 58, 3))], [(48, (.lconst 0, 1)), (49, (.lstore 6, 2)), (51, (.lconst 0, 1)), (52, (.lstore 8, 2)), (54, (.iconst 0, 1)), (55, (.istore 10, 2)), (57, (.iload 10, 2)), (59, (.iconst 1, 1)), (60, (.iload_n 3, 1)), (61, (.bipush 14, 2)), (63, (.invokestatic 61, 3))], [(66, (.ishl, 1)), (67, (.if_icmp .ge 55, 3)), (70, (.iload 10, 2)), (72, (.invokestatic 65, 3)), (75, (.iload_n 2, 1)), (76, (.if_icmp .ne 40, 3)), (79, (.lload 6, 2))], [(81, (.lconst 1, 1)), (82, (.ladd, 1)), (83, (.lstore 6, 2)), (85, (.lload 8, 2)), (87, (.aload_n 0, 1)), (88, (.iload 10, 2)), (90, (.invokevirtual 70, 3)), (93, (.iload_n 3, 1)), (94, (.imul, 1)), (95, (.iload 4, 2))], [(97, (.iload_n 2, 1)), (98, (.imul, 1)), (99, (.isub, 1)), (100, (.invokestatic 53, 3)), (103, (.iload 5, 2)), (105, (.if_icmp .lt 7, 3)), (108, (.lconst 1, 1)), (109, (.goto 4, 3))], [(112, (.lconst 0, 1)), (113, (.ladd, 1)), (114, (.lstore 8, 2)), (116, (.iinc 10 1, 3)), (119, (.goto (-62), 3)), (122, (.aload_n 1, 1)), (123, (.lload 8, 2)), (125, (.lload 6, 2)), (127, (.invokevirtual 40, 3))], [(130, (.return_, 1))]]
set_option maxRecDepth 100000 in
def pmc_88 : pm_T (Instr × Nat) := [[(0, (.iconst 0, 1)), (1, (.istore_n 1, 1)), (2, (.iconst 0, 1)), (3, (.istore_n 2, 1)), (4, (.iload_n 2, 1)), (5, (.bipush 24, 2)), (7, (.if_icmp .ge 34, 3)), (10, (.aload_n 0, 1)), (11, (.getfield 9, 3)), (14, (.iload_n 2, 1)), (15, (.iaload, 1))], [(16, (.iconst (-1), 1)), (17, (.if_icmp .eq 18, 3)), (20, (.aload_n 0, 1)), (21, (.getfield 18, 3)), (24, (.iload_n 1, 1)), (25, (.aload_n 0, 1)), (26, (.getfield 15, 3)), (29, (.iload_n 2, 1)), (30, (.iaload, 1)), (31, (.iastore, 1))], [(32, (.iinc 1 1, 3)), (35, (.iinc 2 1, 3)), (38, (.goto (-34), 3)), (41, (.return_, 1))]]
set_option maxRecDepth 100000 in
def pmc_89 : pm_T (Instr × Nat) := [[(0, (.iconst 0, 1)), (1, (.istore_n 2, 1)), (2, (.iconst 0, 1)), (3, (.istore_n 3, 1)), (4, (.iload_n 3, 1)), (5, (.bipush 14, 2)), (7, (.if_icmp .ge 30, 3)), (10, (.iload_n 2, 1)), (11, (.iload_n 1, 1)), (12, (.iload_n 3, 1)), (13, (.ishr, 1)), (14, (.iconst 1, 1)), (15, (.iand, 1))], [(16, (.ifCond .eq 12, 3)), (19, (.aload_n 0, 1)), (20, (.getfield 18, 3)), (23, (.iload_n 3, 1)), (24, (.iaload, 1)), (25, (.goto 4, 3)), (28, (.iconst 0, 1)), (29, (.iadd, 1)), (30, (.istore_n 2, 1)), (31, (.iinc 3 1, 3))], [(34, (.goto (-30), 3)), (37, (.iload_n 2, 1)), (38, (.ireturn, 1))]]
set_option maxRecDepth 100000 in
def pmc_90 : pm_T (Instr × Nat) := [[(0, (.aload_n 0, 1)), (1, (.iconst 0, 1)), (2, (.invokevirtual 37, 3)), (5, (.i2l, 1)), (6, (.aload_n 0, 1)), (7, (.iconst 1, 1)), (8, (.invokevirtual 33, 3)), (11, (.i2l, 1)), (12, (.lmul, 1)), (13, (.aload_n 0, 1)), (14, (.iconst 1, 1)), (15, (.invokevirtual 37, 3))], [(18, (.i2l, 1)), (19, (.aload_n 0, 1)), (20, (.iconst 0, 1)), (21, (.invokevirtual 33, 3)), (24, (.i2l, 1)), (25, (.lmul, 1)), (26, (.invokestatic 73, 3)), (29, (.istore_n 3, 1)), (30, (.aload_n 0, 1)), (31, (.iconst 0, 1))], [(32, (.iload_n 1, 1)), (33, (.aload_n 0, 1)), (34, (.getfield 21, 3)), (37, (.invokevirtual 79, 3)), (40, (.istore 4, 2)), (42, (.aload_n 0, 1)), (43, (.iconst 1, 1)), (44, (.iload_n 1, 1)), (45, (.aload_n 0, 1)), (46, (.getfield 24, 3))], [(49, (.invokevirtual 79, 3)), (52, (.istore 5, 2)), (54, (.lconst 0, 1)), (55, (.lstore 6, 2)), (57, (.iconst 0, 1)), (58, (.istore 8, 2)), (60, (.iload 8, 2)), (62, (.iload 4, 2))], [(64, (.if_icmp .ge 56, 3)), (67, (.iconst 0, 1)), (68, (.istore 9, 2)), (70, (.iload 9, 2)), (72, (.iload 5, 2)), (74, (.if_icmp .ge 40, 3)), (77, (.lload 6, 2)), (79, (.aload_n 0, 1))], [(80, (.getfield 21, 3)), (83, (.iload 8, 2)), (85, (.iaload, 1)), (86, (.aload_n 0, 1)), (87, (.getfield 24, 3)), (90, (.iload 9, 2)), (92, (.iaload, 1)), (93, (.invokestatic 83, 3))], [(96, (.iload_n 3, 1)), (97, (.if_icmp .ne 7, 3)), (100, (.lconst 1, 1)), (101, (.goto 4, 3)), (104, (.lconst 0, 1)), (105, (.ladd, 1)), (106, (.lstore 6, 2)), (108, (.iinc 9 1, 3)), (111, (.goto (-41), 3))], [(114, (.iinc 8 1, 3)), (117, (.goto (-57), 3)), (120, (.aload_n 2, 1)), (121, (.lload 6, 2)), (123, (.iload 4, 2)), (125, (.i2l, 1)), (126, (.iload 5, 2))], [(128, (.i2l, 1)), (129, (.lmul, 1)), (130, (.invokevirtual 40, 3)), (133, (.return_, 1))]]
set_option maxRecDepth 100000 in
def pmc_91 : pm_T (Instr × Nat) := [[(0, (.aload_n 0, 1)), (1, (.iload_n 1, 1)), (2, (.invokevirtual 46, 3)), (5, (.bipush 9, 2)), (7, (.invokestatic 61, 3)), (10, (.istore 4, 2)), (12, (.iconst 0, 1)), (13, (.istore 5, 2)), (15, (.iconst 0, 1))], [(16, (.istore 6, 2)), (18, (.iload 6, 2)), (20, (.iconst 1, 1)), (21, (.iload 4, 2)), (23, (.ishl, 1)), (24, (.if_icmp .ge 31, 3)), (27, (.iload 6, 2)), (29, (.invokestatic 65, 3))], [(32, (.iload_n 2, 1)), (33, (.if_icmp .ne 16, 3)), (36, (.aload_n 3, 1)), (37, (.iload 5, 2)), (39, (.aload_n 0, 1)), (40, (.iload 6, 2)), (42, (.invokevirtual 70, 3)), (45, (.iastore, 1)), (46, (.iinc 5 1, 3))], [(49, (.iinc 6 1, 3)), (52, (.goto (-34), 3)), (55, (.iload 5, 2)), (57, (.ireturn, 1))]]
set_option maxRecDepth 100000 in
def pmc_92 : pm_T (Instr × Nat) := [[(0, (.iconst 0, 1)), (1, (.istore_n 2, 1)), (2, (.iconst 0, 1)), (3, (.istore_n 3, 1)), (4, (.iload_n 3, 1)), (5, (.bipush 24, 2)), (7, (.if_icmp .ge 34, 3)), (10, (.aload_n 0, 1)), (11, (.getfield 9, 3)), (14, (.iload_n 3, 1)), (15, (.iaload, 1))], [(16, (.iload_n 1, 1)), (17, (.if_icmp .ne 18, 3)), (20, (.aload_n 0, 1)), (21, (.getfield 18, 3)), (24, (.iload_n 2, 1)), (25, (.aload_n 0, 1)), (26, (.getfield 15, 3)), (29, (.iload_n 3, 1)), (30, (.iaload, 1)), (31, (.iastore, 1))], [(32, (.iinc 2 1, 3)), (35, (.iinc 3 1, 3)), (38, (.goto (-34), 3)), (41, (.iload_n 2, 1)), (42, (.ireturn, 1))]]
set_option maxRecDepth 100000 in
def pmc_93 : pm_T (Instr × Nat) := [[(0, (.aload_n 0, 1)), (1, (.getfield 9, 3)), (4, (.iload_n 1, 1)), (5, (.iconst (-1), 1)), (6, (.iastore, 1)), (7, (.return_, 1))]]
set_option maxRecDepth 100000 in
def pmc_94 : pm_T (Instr × Nat) := [[(0, (.aload_n 0, 1)), (1, (.iload_n 1, 1)), (2, (.invokevirtual 46, 3)), (5, (.istore 4, 2)), (7, (.aload_n 0, 1)), (8, (.iload 4, 2)), (10, (.invokevirtual 49, 3)), (13, (.lconst 0, 1)), (14, (.lstore 5, 2))], [(16, (.iconst 0, 1)), (17, (.istore 7, 2)), (19, (.iload 7, 2)), (21, (.iload_n 2, 1)), (22, (.if_icmp .ge 43, 3)), (25, (.iload 7, 2)), (27, (.iload 4, 2)), (29, (.if_icmp .ge 36, 3))], [(32, (.lload 5, 2)), (34, (.aload_n 0, 1)), (35, (.getfield 18, 3)), (38, (.iload_n 3, 1)), (39, (.ifCond .eq 13, 3)), (42, (.iload 4, 2)), (44, (.iconst 1, 1)), (45, (.isub, 1)), (46, (.iload 7, 2))], [(48, (.isub, 1)), (49, (.goto 5, 3)), (52, (.iload 7, 2)), (54, (.iaload, 1)), (55, (.i2l, 1)), (56, (.ladd, 1)), (57, (.lstore 5, 2)), (59, (.iinc 7 1, 3)), (62, (.goto (-43), 3))], [(65, (.lload 5, 2)), (67, (.lreturn, 1))]]
set_option maxRecDepth 100000 in
def pmc_95 : pm_T (Instr × Nat) := [[(0, (.iconst 1, 1)), (1, (.istore_n 2, 1)), (2, (.iload_n 2, 1)), (3, (.iload_n 1, 1)), (4, (.if_icmp .ge 67, 3)), (7, (.aload_n 0, 1)), (8, (.getfield 18, 3)), (11, (.iload_n 2, 1)), (12, (.iaload, 1)), (13, (.istore_n 3, 1)), (14, (.iload_n 2, 1)), (15, (.istore 4, 2))], [(17, (.iload 4, 2)), (19, (.ifCond .le 38, 3)), (22, (.aload_n 0, 1)), (23, (.getfield 18, 3)), (26, (.iload 4, 2)), (28, (.iconst 1, 1)), (29, (.isub, 1)), (30, (.iaload, 1)), (31, (.iload_n 3, 1))], [(32, (.if_icmp .le 25, 3)), (35, (.aload_n 0, 1)), (36, (.getfield 18, 3)), (39, (.iload 4, 2)), (41, (.aload_n 0, 1)), (42, (.getfield 18, 3)), (45, (.iload 4, 2)), (47, (.iconst 1, 1))], [(48, (.isub, 1)), (49, (.iaload, 1)), (50, (.iastore, 1)), (51, (.iinc 4 (-1), 3)), (54, (.goto (-37), 3)), (57, (.aload_n 0, 1)), (58, (.getfield 18, 3)), (61, (.iload 4, 2)), (63, (.iload_n 3, 1))], [(64, (.iastore, 1)), (65, (.iinc 2 1, 3)), (68, (.goto (-66), 3)), (71, (.return_, 1))]]
set_option maxRecDepth 100000 in
def pmc_96 : pm_T (Instr × Nat) := [[(0, (.aload_n 0, 1)), (1, (.invokespecial 3, 3)), (4, (.aload_n 0, 1)), (5, (.sipush 1000, 3)), (8, (.newarray .char, 2)), (10, (.putfield 11, 3)), (13, (.aload_n 0, 1)), (14, (.iconst 0, 1)), (15, (.putfield 15, 3))], [(18, (.aload_n 0, 1)), (19, (.iconst 0, 1)), (20, (.putfield 19, 3)), (23, (.aload_n 0, 1)), (24, (.iconst 0, 1)), (25, (.putfield 22, 3)), (28, (.aload_n 0, 1)), (29, (.iconst 4, 1)), (30, (.putfield 25, 3))], [(33, (.aload_n 0, 1)), (34, (.iconst 0, 1)), (35, (.putfield 28, 3)), (38, (.return_, 1))]]
set_option maxRecDepth 100000 in
def pmc_97 : pm_T (Instr × Nat) := [[(0, (.bipush 56, 2)), (2, (.istore_n 3, 1)), (3, (.iload_n 3, 1)), (4, (.ifCond .lt 82, 3)), (7, (.lload_n 1, 1)), (8, (.iload_n 3, 1)), (9, (.lushr, 1)), (10, (.ldc2_w 31, 3)), (13, (.land, 1)), (14, (.l2i, 1)), (15, (.istore 4, 2))], [(17, (.iload 4, 2)), (19, (.bipush 10, 2)), (21, (.if_icmp .eq 15, 3)), (24, (.iload 4, 2)), (26, (.bipush 32, 2)), (28, (.bipush 126, 2)), (30, (.invokestatic 33, 3))], [(33, (.ifCond .eq 7, 3)), (36, (.iconst 1, 1)), (37, (.goto 4, 3)), (40, (.iconst 0, 1)), (41, (.istore 5, 2)), (43, (.iload 5, 2)), (45, (.ifCond .eq 35, 3))], [(48, (.aload_n 0, 1)), (49, (.getfield 15, 3)), (52, (.sipush 1000, 3)), (55, (.if_icmp .ge 25, 3)), (58, (.aload_n 0, 1)), (59, (.getfield 11, 3)), (62, (.aload_n 0, 1)), (63, (.getfield 15, 3))], [(66, (.iload 4, 2)), (68, (.i2c, 1)), (69, (.castore, 1)), (70, (.aload_n 0, 1)), (71, (.dup, 1)), (72, (.getfield 15, 3)), (75, (.iconst 1, 1)), (76, (.iadd, 1)), (77, (.putfield 15, 3))], [(80, (.iinc 3 (-8), 3)), (83, (.goto (-80), 3)), (86, (.return_, 1))]]
set_option maxRecDepth 100000 in
def pmc_98 : pm_T (Instr × Nat) := [[(0, (.aload_n 0, 1)), (1, (.getfield 15, 3)), (4, (.ireturn, 1))]]
set_option maxRecDepth 100000 in
def pmc_99 : pm_T (Instr × Nat) := [[(0, (.aload_n 0, 1)), (1, (.iconst 0, 1)), (2, (.putfield 15, 3)), (5, (.return_, 1))]]
set_option maxRecDepth 100000 in
def pmc_100 : pm_T (Instr × Nat) := [[(0, (.aload_n 0, 1)), (1, (.iconst 0, 1)), (2, (.putfield 22, 3)), (5, (.return_, 1))]]
set_option maxRecDepth 100000 in
def pmc_101 : pm_T (Instr × Nat) := [[(0, (.aload_n 0, 1)), (1, (.aload_n 0, 1)), (2, (.getfield 22, 3)), (5, (.putfield 19, 3)), (8, (.aload_n 0, 1)), (9, (.getfield 19, 3)), (12, (.aload_n 0, 1)), (13, (.getfield 15, 3))], [(16, (.if_icmp .ge 31, 3)), (19, (.aload_n 0, 1)), (20, (.getfield 11, 3)), (23, (.aload_n 0, 1)), (24, (.getfield 19, 3)), (27, (.caload, 1)), (28, (.invokestatic 37, 3)), (31, (.ifCond .eq 16, 3))], [(34, (.aload_n 0, 1)), (35, (.dup, 1)), (36, (.getfield 19, 3)), (39, (.iconst 1, 1)), (40, (.iadd, 1)), (41, (.putfield 19, 3)), (44, (.goto (-36), 3)), (47, (.aload_n 0, 1))], [(48, (.aload_n 0, 1)), (49, (.getfield 19, 3)), (52, (.putfield 22, 3)), (55, (.aload_n 0, 1)), (56, (.getfield 19, 3)), (59, (.aload_n 0, 1)), (60, (.getfield 15, 3)), (63, (.if_icmp .lt 11, 3))], [(66, (.aload_n 0, 1)), (67, (.iconst 4, 1)), (68, (.putfield 25, 3)), (71, (.goto 96, 3)), (74, (.aload_n 0, 1)), (75, (.getfield 11, 3)), (78, (.aload_n 0, 1)), (79, (.getfield 19, 3))], [(82, (.caload, 1)), (83, (.invokestatic 41, 3)), (86, (.ifCond .eq 10, 3)), (89, (.aload_n 0, 1)), (90, (.invokevirtual 44, 3)), (93, (.goto 74, 3))], [(96, (.aload_n 0, 1)), (97, (.getfield 11, 3)), (100, (.aload_n 0, 1)), (101, (.getfield 19, 3)), (104, (.caload, 1)), (105, (.invokestatic 47, 3)), (108, (.ifCond .eq 10, 3)), (111, (.aload_n 0, 1))], [(112, (.invokevirtual 50, 3)), (115, (.goto 52, 3)), (118, (.aload_n 0, 1)), (119, (.dup, 1)), (120, (.getfield 22, 3)), (123, (.iconst 1, 1)), (124, (.iadd, 1)), (125, (.putfield 22, 3))], [(128, (.aload_n 0, 1)), (129, (.aload_n 0, 1)), (130, (.getfield 11, 3)), (133, (.aload_n 0, 1)), (134, (.getfield 19, 3)), (137, (.caload, 1)), (138, (.putfield 28, 3)), (141, (.aload_n 0, 1)), (142, (.ldc 53, 2))], [(144, (.aload_n 0, 1)), (145, (.getfield 11, 3)), (148, (.aload_n 0, 1)), (149, (.getfield 19, 3)), (152, (.caload, 1)), (153, (.invokevirtual 55, 3)), (156, (.ifCond .lt 7, 3)), (159, (.iconst 3, 1))], [(160, (.goto 4, 3)), (163, (.iconst 0, 1)), (164, (.putfield 25, 3)), (167, (.return_, 1))]]
set_option maxRecDepth 100000 in
def pmc_102 : pm_T (Instr × Nat) := [[(0, (.iload_n 0, 1)), (1, (.bipush 32, 2)), (3, (.if_icmp .eq 9, 3)), (6, (.iload_n 0, 1)), (7, (.bipush 10, 2)), (9, (.if_icmp .ne 7, 3)), (12, (.iconst 1, 1)), (13, (.goto 4, 3))], [(16, (.iconst 0, 1)), (17, (.ireturn, 1))]]
set_option maxRecDepth 100000 in
def pmc_103 : pm_T (Instr × Nat) := [[(0, (.iload_n 0, 1)), (1, (.bipush 97, 2)), (3, (.if_icmp .lt 13, 3)), (6, (.iload_n 0, 1)), (7, (.bipush 122, 2)), (9, (.if_icmp .gt 7, 3)), (12, (.iconst 1, 1)), (13, (.goto 4, 3))], [(16, (.iconst 0, 1)), (17, (.ireturn, 1))]]
set_option maxRecDepth 100000 in
def pmc_104 : pm_T (Instr × Nat) := [[(0, (.aload_n 0, 1)), (1, (.getfield 22, 3)), (4, (.aload_n 0, 1)), (5, (.getfield 15, 3)), (8, (.if_icmp .ge 31, 3)), (11, (.aload_n 0, 1)), (12, (.getfield 11, 3)), (15, (.aload_n 0, 1))], [(16, (.getfield 22, 3)), (19, (.caload, 1)), (20, (.invokestatic 41, 3)), (23, (.ifCond .eq 16, 3)), (26, (.aload_n 0, 1)), (27, (.dup, 1)), (28, (.getfield 22, 3)), (31, (.iconst 1, 1))], [(32, (.iadd, 1)), (33, (.putfield 22, 3)), (36, (.goto (-36), 3)), (39, (.aload_n 0, 1)), (40, (.aload_n 0, 1)), (41, (.getfield 22, 3)), (44, (.aload_n 0, 1)), (45, (.getfield 19, 3))], [(48, (.isub, 1)), (49, (.bipush 8, 2)), (51, (.if_icmp .gt 7, 3)), (54, (.iconst 1, 1)), (55, (.goto 4, 3)), (58, (.iconst 0, 1)), (59, (.putfield 25, 3)), (62, (.return_, 1))]]
set_option maxRecDepth 100000 in
def pmc_105 : pm_T (Instr × Nat) := [[(0, (.iload_n 0, 1)), (1, (.bipush 48, 2)), (3, (.if_icmp .lt 13, 3)), (6, (.iload_n 0, 1)), (7, (.bipush 57, 2)), (9, (.if_icmp .gt 7, 3)), (12, (.iconst 1, 1)), (13, (.goto 4, 3))], [(16, (.iconst 0, 1)), (17, (.ireturn, 1))]]
set_option maxRecDepth 100000 in
def pmc_106 : pm_T (Instr × Nat) := [[(0, (.aload_n 0, 1)), (1, (.iconst 0, 1)), (2, (.putfield 28, 3)), (5, (.aload_n 0, 1)), (6, (.getfield 22, 3)), (9, (.aload_n 0, 1)), (10, (.getfield 15, 3)), (13, (.if_icmp .ge 55, 3))], [(16, (.aload_n 0, 1)), (17, (.getfield 11, 3)), (20, (.aload_n 0, 1)), (21, (.getfield 22, 3)), (24, (.caload, 1)), (25, (.invokestatic 47, 3)), (28, (.ifCond .eq 40, 3)), (31, (.aload_n 0, 1))], [(32, (.aload_n 0, 1)), (33, (.getfield 28, 3)), (36, (.bipush 10, 2)), (38, (.imul, 1)), (39, (.aload_n 0, 1)), (40, (.getfield 11, 3)), (43, (.aload_n 0, 1)), (44, (.getfield 22, 3)), (47, (.caload, 1))], [(48, (.bipush 48, 2)), (50, (.isub, 1)), (51, (.iadd, 1)), (52, (.putfield 28, 3)), (55, (.aload_n 0, 1)), (56, (.dup, 1)), (57, (.getfield 22, 3)), (60, (.iconst 1, 1)), (61, (.iadd, 1)), (62, (.putfield 22, 3))], [(65, (.goto (-60), 3)), (68, (.aload_n 0, 1)), (69, (.aload_n 0, 1)), (70, (.getfield 22, 3)), (73, (.aload_n 0, 1)), (74, (.getfield 19, 3)), (77, (.isub, 1)), (78, (.iconst 4, 1)), (79, (.if_icmp .gt 7, 3))], [(82, (.iconst 2, 1)), (83, (.goto 4, 3)), (86, (.iconst 0, 1)), (87, (.putfield 25, 3)), (90, (.return_, 1))]]
set_option maxRecDepth 100000 in
def pmc_107 : pm_T (Instr × Nat) := [[(0, (.aload_n 0, 1)), (1, (.getfield 25, 3)), (4, (.ireturn, 1))]]
set_option maxRecDepth 100000 in
def pmc_108 : pm_T (Instr × Nat) := [[(0, (.iconst 0, 1)), (1, (.istore_n 2, 1)), (2, (.aload_n 0, 1)), (3, (.getfield 19, 3)), (6, (.istore_n 3, 1)), (7, (.aload_n 0, 1)), (8, (.getfield 25, 3)), (11, (.iconst 1, 1)), (12, (.if_icmp .ne 7, 3)), (15, (.iconst 1, 1))], [(16, (.goto 4, 3)), (19, (.iconst 0, 1)), (20, (.istore 4, 2)), (22, (.iconst 0, 1)), (23, (.istore 5, 2)), (25, (.iload 5, 2)), (27, (.aload_n 1, 1)), (28, (.invokevirtual 61, 3)), (31, (.if_icmp .ge 99, 3))], [(34, (.aload_n 1, 1)), (35, (.iload 5, 2)), (37, (.invokevirtual 64, 3)), (40, (.istore 6, 2)), (42, (.iload 6, 2)), (44, (.bipush 32, 2)), (46, (.if_icmp .eq 40, 3))], [(49, (.iload 4, 2)), (51, (.ifCond .eq 26, 3)), (54, (.iload_n 3, 1)), (55, (.aload_n 0, 1)), (56, (.getfield 22, 3)), (59, (.if_icmp .ge 18, 3)), (62, (.aload_n 0, 1)), (63, (.getfield 11, 3))], [(66, (.iload_n 3, 1)), (67, (.caload, 1)), (68, (.iload 6, 2)), (70, (.if_icmp .ne 7, 3)), (73, (.iconst 1, 1)), (74, (.goto 4, 3)), (77, (.iconst 0, 1)), (78, (.istore 4, 2))], [(80, (.iinc 3 1, 3)), (83, (.goto 41, 3)), (86, (.iload 4, 2)), (88, (.ifCond .eq 13, 3)), (91, (.iload_n 3, 1)), (92, (.aload_n 0, 1)), (93, (.getfield 22, 3))], [(96, (.if_icmp .ne 5, 3)), (99, (.iload_n 2, 1)), (100, (.ireturn, 1)), (101, (.iinc 2 1, 3)), (104, (.aload_n 0, 1)), (105, (.getfield 19, 3)), (108, (.istore_n 3, 1)), (109, (.aload_n 0, 1)), (110, (.getfield 25, 3))], [(113, (.iconst 1, 1)), (114, (.if_icmp .ne 7, 3)), (117, (.iconst 1, 1)), (118, (.goto 4, 3)), (121, (.iconst 0, 1)), (122, (.istore 4, 2)), (124, (.iinc 5 1, 3)), (127, (.goto (-102), 3))], [(130, (.iconst (-1), 1)), (131, (.ireturn, 1))]]
set_option maxRecDepth 100000 in
def pmc_109 : pm_T (Instr × Nat) := [[(0, (.aload_n 0, 1)), (1, (.getfield 25, 3)), (4, (.iconst 3, 1)), (5, (.if_icmp .ne 15, 3)), (8, (.aload_n 0, 1)), (9, (.getfield 28, 3)), (12, (.iload_n 1, 1)), (13, (.if_icmp .ne 7, 3))], [(16, (.iconst 1, 1)), (17, (.goto 4, 3)), (20, (.iconst 0, 1)), (21, (.ireturn, 1))]]
set_option maxRecDepth 100000 in
def pmc_110 : pm_T (Instr × Nat) := [[(0, (.aload_n 0, 1)), (1, (.getfield 28, 3)), (4, (.ireturn, 1))]]
set_option maxRecDepth 100000 in
def pmc_111 : pm_T (Instr × Nat) := [[(0, (.aload_n 0, 1)), (1, (.getfield 19, 3)), (4, (.ireturn, 1))]]
set_option maxRecDepth 100000 in
def pmc_112 : pm_T (Instr × Nat) := [[(0, (.aload_n 0, 1)), (1, (.invokespecial 3, 3)), (4, (.aload_n 0, 1)), (5, (.new 9, 3)), (8, (.dup, 1)), (9, (.invokespecial 11, 3)), (12, (.putfield 12, 3)), (15, (.aload_n 0, 1))], [(16, (.bipush 10, 2)), (18, (.newarray .int, 2)), (20, (.putfield 18, 3)), (23, (.aload_n 0, 1)), (24, (.lconst 0, 1)), (25, (.putfield 22, 3)), (28, (.aload_n 0, 1)), (29, (.aload_n 1, 1)), (30, (.putfield 26, 3))], [(33, (.aload_n 0, 1)), (34, (.aload_n 2, 1)), (35, (.putfield 30, 3)), (38, (.aload_n 0, 1)), (39, (.aload_n 3, 1)), (40, (.putfield 33, 3)), (43, (.return_, 1))]]
set_option maxRecDepth 100000 in
def pmc_113 : pm_T (Instr × Nat) := [[(0, (.aload_n 0, 1)), (1, (.iload_n 2, 1)), (2, (.i2l, 1)), (3, (.putfield 22, 3)), (6, (.aload_n 0, 1)), (7, (.getfield 12, 3)), (10, (.aload_n 0, 1)), (11, (.getfield 30, 3)), (14, (.invokevirtual 37, 3))], [(17, (.iconst 0, 1)), (18, (.istore 4, 2)), (20, (.iload 4, 2)), (22, (.bipush 24, 2)), (24, (.if_icmp .ge 34, 3)), (27, (.aload_n 0, 1)), (28, (.getfield 12, 3)), (31, (.iload 4, 2))], [(33, (.iconst 0, 1)), (34, (.invokevirtual 41, 3)), (37, (.ifCond .eq 15, 3)), (40, (.aload_n 0, 1)), (41, (.getfield 12, 3)), (44, (.iload 4, 2)), (46, (.iconst 0, 1)), (47, (.iconst 0, 1))], [(48, (.iconst 0, 1)), (49, (.invokevirtual 45, 3)), (52, (.iinc 4 1, 3)), (55, (.goto (-35), 3)), (58, (.iconst 1, 1)), (59, (.istore 4, 2)), (61, (.iload 4, 2)), (63, (.iload_n 3, 1))], [(64, (.if_icmp .gt 53, 3)), (67, (.iload 4, 2)), (69, (.bipush 12, 2)), (71, (.if_icmp .ge 46, 3)), (74, (.iconst 0, 1)), (75, (.istore 5, 2)), (77, (.iload 5, 2)), (79, (.bipush 24, 2))], [(81, (.if_icmp .ge 30, 3)), (84, (.aload_n 0, 1)), (85, (.getfield 26, 3)), (88, (.iload 5, 2)), (90, (.invokevirtual 49, 3)), (93, (.ifCond .eq 12, 3))], [(96, (.aload_n 0, 1)), (97, (.aload_n 1, 1)), (98, (.iload 5, 2)), (100, (.iload 4, 2)), (102, (.invokevirtual 55, 3)), (105, (.iinc 5 1, 3)), (108, (.goto (-31), 3)), (111, (.iinc 4 1, 3))], [(114, (.goto (-53), 3)), (117, (.return_, 1))]]
set_option maxRecDepth 100000 in
def pmc_114 : pm_T (Instr × Nat) := [[(0, (.aload_n 0, 1)), (1, (.aload_n 0, 1)), (2, (.getfield 22, 3)), (5, (.ldc2_w 59, 3)), (8, (.lmul, 1)), (9, (.ldc2_w 61, 3)), (12, (.ladd, 1)), (13, (.ldc2_w 63, 3))], [(16, (.lrem, 1)), (17, (.putfield 22, 3)), (20, (.aload_n 0, 1)), (21, (.getfield 12, 3)), (24, (.iload_n 2, 1)), (25, (.iload_n 3, 1)), (26, (.iconst 1, 1)), (27, (.isub, 1)), (28, (.invokevirtual 65, 3)), (31, (.istore 4, 2))], [(33, (.aload_n 0, 1)), (34, (.iload_n 2, 1)), (35, (.iload_n 3, 1)), (36, (.iload 4, 2)), (38, (.invokevirtual 68, 3)), (41, (.iload 4, 2)), (43, (.ifCond .eq 20, 3)), (46, (.aload_n 1, 1)), (47, (.iconst 3, 1))], [(48, (.aload_n 0, 1)), (49, (.getfield 18, 3)), (52, (.iconst 0, 1)), (53, (.invokevirtual 72, 3)), (56, (.ifCond .eq 7, 3)), (59, (.iconst 1, 1)), (60, (.goto 4, 3)), (63, (.iconst 0, 1))], [(64, (.istore 5, 2)), (66, (.iload 4, 2)), (68, (.ifCond .ne 20, 3)), (71, (.aload_n 1, 1)), (72, (.iconst 2, 1)), (73, (.aload_n 0, 1)), (74, (.getfield 18, 3)), (77, (.iconst 0, 1)), (78, (.invokevirtual 72, 3))], [(81, (.ifCond .ne 7, 3)), (84, (.iconst 1, 1)), (85, (.goto 4, 3)), (88, (.iconst 0, 1)), (89, (.istore 6, 2)), (91, (.iload 5, 2)), (93, (.ifCond .ne 8, 3))], [(96, (.iload 6, 2)), (98, (.ifCond .eq 59, 3)), (101, (.aload_n 1, 1)), (102, (.iconst 0, 1)), (103, (.aload_n 0, 1)), (104, (.getfield 18, 3)), (107, (.aload_n 0, 1)), (108, (.getfield 18, 3)), (111, (.iconst 0, 1))], [(112, (.iaload, 1)), (113, (.invokevirtual 72, 3)), (116, (.istore 7, 2)), (118, (.aload_n 1, 1)), (119, (.iconst 1, 1)), (120, (.aload_n 0, 1)), (121, (.getfield 18, 3)), (124, (.aload_n 0, 1)), (125, (.getfield 18, 3))], [(128, (.iconst 1, 1)), (129, (.iaload, 1)), (130, (.invokevirtual 72, 3)), (133, (.istore 8, 2)), (135, (.aload_n 0, 1)), (136, (.getfield 12, 3)), (139, (.iload_n 2, 1)), (140, (.iload_n 3, 1)), (141, (.iload 7, 2)), (143, (.invokestatic 78, 3))], [(146, (.iload 8, 2)), (148, (.invokestatic 78, 3)), (151, (.invokevirtual 45, 3)), (154, (.goto 12, 3)), (157, (.aload_n 0, 1)), (158, (.getfield 12, 3))], [(161, (.iload_n 2, 1)), (162, (.iload_n 3, 1)), (163, (.invokevirtual 82, 3)), (166, (.return_, 1))]]
set_option maxRecDepth 100000 in
def pmc_115 : pm_T (Instr × Nat) := [[(0, (.aload_n 0, 1)), (1, (.getfield 26, 3)), (4, (.iload_n 1, 1)), (5, (.invokevirtual 86, 3)), (8, (.istore 4, 2)), (10, (.aload_n 0, 1)), (11, (.getfield 26, 3)), (14, (.iload_n 1, 1)), (15, (.invokevirtual 89, 3))], [(18, (.istore 5, 2)), (20, (.aload_n 0, 1)), (21, (.getfield 33, 3)), (24, (.iload 4, 2)), (26, (.iload_n 2, 1)), (27, (.invokevirtual 92, 3)), (30, (.istore 6, 2))], [(32, (.aload_n 0, 1)), (33, (.getfield 18, 3)), (36, (.iconst 0, 1)), (37, (.aload_n 0, 1)), (38, (.getfield 12, 3)), (41, (.iload_n 1, 1)), (42, (.iload_n 2, 1)), (43, (.iconst 1, 1)), (44, (.isub, 1)), (45, (.invokevirtual 98, 3))], [(48, (.iastore, 1)), (49, (.aload_n 0, 1)), (50, (.getfield 18, 3)), (53, (.iconst 1, 1)), (54, (.aload_n 0, 1)), (55, (.getfield 12, 3)), (58, (.iload_n 1, 1)), (59, (.iload_n 2, 1)), (60, (.iconst 1, 1)), (61, (.isub, 1)), (62, (.invokevirtual 101, 3))], [(65, (.iastore, 1)), (66, (.aload_n 0, 1)), (67, (.getfield 18, 3)), (70, (.iconst 2, 1)), (71, (.iload 5, 2)), (73, (.iastore, 1)), (74, (.aload_n 0, 1)), (75, (.getfield 18, 3)), (78, (.iconst 3, 1)), (79, (.iload 6, 2))], [(81, (.iastore, 1)), (82, (.aload_n 0, 1)), (83, (.getfield 18, 3)), (86, (.iconst 4, 1)), (87, (.iconst 0, 1)), (88, (.iload 6, 2)), (90, (.iload 5, 2)), (92, (.isub, 1)), (93, (.invokestatic 104, 3))], [(96, (.iastore, 1)), (97, (.aload_n 0, 1)), (98, (.getfield 18, 3)), (101, (.iconst 5, 1)), (102, (.iload 4, 2)), (104, (.iastore, 1)), (105, (.aload_n 0, 1)), (106, (.getfield 18, 3)), (109, (.bipush 6, 2)), (111, (.iload_n 2, 1))], [(112, (.iastore, 1)), (113, (.aload_n 0, 1)), (114, (.getfield 18, 3)), (117, (.bipush 7, 2)), (119, (.aload_n 0, 1)), (120, (.getfield 33, 3)), (123, (.iload 4, 2)), (125, (.iload_n 2, 1)), (126, (.invokevirtual 109, 3))], [(129, (.iastore, 1)), (130, (.aload_n 0, 1)), (131, (.getfield 18, 3)), (134, (.bipush 8, 2)), (136, (.aload_n 0, 1)), (137, (.getfield 22, 3)), (140, (.ldc2_w 112, 3)), (143, (.ldiv, 1))], [(144, (.ldc2_w 114, 3)), (147, (.lrem, 1)), (148, (.l2i, 1)), (149, (.iastore, 1)), (150, (.aload_n 0, 1)), (151, (.getfield 18, 3)), (154, (.bipush 9, 2)), (156, (.iload_n 3, 1)), (157, (.ifCond .eq 7, 3))], [(160, (.iconst 1, 1)), (161, (.goto 4, 3)), (164, (.iconst 0, 1)), (165, (.iastore, 1)), (166, (.return_, 1))]]
set_option maxRecDepth 100000 in
def pmc_116 : pm_T (Instr × Nat) := [[(0, (.iconst 0, 1)), (1, (.bipush 99, 2)), (3, (.iload_n 0, 1)), (4, (.invokestatic 116, 3)), (7, (.invokestatic 104, 3)), (10, (.ireturn, 1))]]
set_option maxRecDepth 100000 in
def pmc_117 : pm_T (Instr × Nat) := [[(0, (.aload_n 0, 1)), (1, (.getfield 12, 3)), (4, (.areturn, 1))]]
set_option maxRecDepth 100000 in
def pmc_324 : pm_T (Instr × Nat) := [[(0, (.iconst 0, 1)), (1, (.istore_n 2, 1)), (2, (.aload_n 0, 1)), (3, (.arraylength, 1)), (4, (.istore_n 3, 1)), (5, (.iload_n 2, 1)), (6, (.iload_n 3, 1)), (7, (.if_icmp .ge 13, 3)), (10, (.aload_n 0, 1)), (11, (.iload_n 2, 1)), (12, (.iload_n 1, 1)), (13, (.iastore, 1)), (14, (.iinc 2 1, 3))], [(17, (.goto (-12), 3)), (20, (.return_, 1))]]
set_option maxRecDepth 100000 in
def pmc_325 : pm_T (Instr × Nat) := [[(0, (.iload_n 1, 1)), (1, (.aload_n 0, 1)), (2, (.arraylength, 1)), (3, (.if_icmp .ne 11, 3)), (6, (.aload_n 0, 1)), (7, (.invokevirtual 316, 3)), (10, (.checkcast 317, 3)), (13, (.areturn, 1)), (14, (.iload_n 1, 1)), (15, (.newarray .int, 2))], [(17, (.astore_n 2, 1)), (18, (.aload_n 0, 1)), (19, (.iconst 0, 1)), (20, (.aload_n 2, 1)), (21, (.iconst 0, 1)), (22, (.aload_n 0, 1)), (23, (.arraylength, 1)), (24, (.iload_n 1, 1)), (25, (.invokestatic 304, 3)), (28, (.invokestatic 150, 3)), (31, (.aload_n 2, 1))], [(32, (.areturn, 1))]]
set_option maxRecDepth 100000 in
def pmc_326 : pm_T (Instr × Nat) := [[(0, (.iload_n 0, 1)), (1, (.iload_n 0, 1)), (2, (.iconst 1, 1)), (3, (.iushr, 1)), (4, (.ldc_w 265, 3)), (7, (.iand, 1)), (8, (.isub, 1)), (9, (.istore_n 0, 1)), (10, (.iload_n 0, 1)), (11, (.ldc_w 266, 3)), (14, (.iand, 1)), (15, (.iload_n 0, 1))], [(16, (.iconst 2, 1)), (17, (.iushr, 1)), (18, (.ldc_w 266, 3)), (21, (.iand, 1)), (22, (.iadd, 1)), (23, (.istore_n 0, 1)), (24, (.iload_n 0, 1)), (25, (.iload_n 0, 1)), (26, (.iconst 4, 1)), (27, (.iushr, 1)), (28, (.iadd, 1)), (29, (.ldc_w 267, 3))], [(32, (.iand, 1)), (33, (.istore_n 0, 1)), (34, (.iload_n 0, 1)), (35, (.iload_n 0, 1)), (36, (.bipush 8, 2)), (38, (.iushr, 1)), (39, (.iadd, 1)), (40, (.istore_n 0, 1)), (41, (.iload_n 0, 1)), (42, (.iload_n 0, 1)), (43, (.bipush 16, 2)), (45, (.iushr, 1)), (46, (.iadd, 1)), (47, (.istore_n 0, 1))], [(48, (.iload_n 0, 1)), (49, (.bipush 63, 2)), (51, (.iand, 1)), (52, (.ireturn, 1))]]
set_option maxRecDepth 100000 in
def pmc_327 : pm_T (Instr × Nat) := [[(0, (.iload_n 0, 1)), (1, (.iload_n 1, 1)), (2, (.if_icmp .ge 7, 3)), (5, (.iconst (-1), 1)), (6, (.goto 13, 3)), (9, (.iload_n 0, 1)), (10, (.iload_n 1, 1)), (11, (.if_icmp .ne 7, 3)), (14, (.iconst 0, 1)), (15, (.goto 4, 3))], [(18, (.iconst 1, 1)), (19, (.ireturn, 1))]]
set_option maxRecDepth 100000 in
def pmc_328 : pm_T (Instr × Nat) := [[(0, (.lload_n 0, 1)), (1, (.lload_n 2, 1)), (2, (.lcmp, 1)), (3, (.ifCond .ge 7, 3)), (6, (.iconst (-1), 1)), (7, (.goto 14, 3)), (10, (.lload_n 0, 1)), (11, (.lload_n 2, 1)), (12, (.lcmp, 1)), (13, (.ifCond .ne 7, 3))], [(16, (.iconst 0, 1)), (17, (.goto 4, 3)), (20, (.iconst 1, 1)), (21, (.ireturn, 1))]]
set_option maxRecDepth 100000 in
def pmc_329 : pm_T (Instr × Nat) := [[(0, (.aload_n 0, 1)), (1, (.iload_n 1, 1)), (2, (.iconst 0, 1)), (3, (.invokevirtual 633, 3)), (6, (.ireturn, 1))]]
set_option maxRecDepth 100000 in
def pmc_330 : pm_T (Instr × Nat) := [[(0, (.aload_n 0, 1)), (1, (.invokevirtual 492, 3)), (4, (.ifCond .eq 19, 3)), (7, (.aload_n 0, 1)), (8, (.getfield 9, 3)), (11, (.iload_n 1, 1)), (12, (.iload_n 2, 1)), (13, (.aload_n 0, 1)), (14, (.invokevirtual 505, 3))], [(17, (.invokestatic 637, 3)), (20, (.goto 16, 3)), (23, (.aload_n 0, 1)), (24, (.getfield 9, 3)), (27, (.iload_n 1, 1)), (28, (.iload_n 2, 1)), (29, (.aload_n 0, 1)), (30, (.invokevirtual 505, 3))], [(33, (.invokestatic 640, 3)), (36, (.ireturn, 1))]]
set_option maxRecDepth 100000 in
def pmc_331 : pm_T (Instr × Nat) := [[(0, (.getstatic 38, 3)), (3, (.ifCond .eq 14, 3)), (6, (.aload_n 0, 1)), (7, (.getfield 15, 3)), (10, (.ifCond .ne 7, 3)), (13, (.iconst 1, 1)), (14, (.goto 4, 3))], [(17, (.iconst 0, 1)), (18, (.ireturn, 1))]]
set_option maxRecDepth 100000 in
def pmc_332 : pm_T (Instr × Nat) := [[(0, (.aload_n 0, 1)), (1, (.getfield 9, 3)), (4, (.arraylength, 1)), (5, (.aload_n 0, 1)), (6, (.invokevirtual 335, 3)), (9, (.ishr, 1)), (10, (.ireturn, 1))]]
set_option maxRecDepth 100000 in
def pmc_333 : pm_T (Instr × Nat) := [[(0, (.getstatic 38, 3)), (3, (.ifCond .eq 10, 3)), (6, (.aload_n 0, 1)), (7, (.getfield 15, 3)), (10, (.goto 4, 3)), (13, (.iconst 1, 1)), (14, (.ireturn, 1))]]
set_option maxRecDepth 100000 in
def pmc_334 : pm_T (Instr × Nat) := [[(0, (.iload_n 0, 1)), (1, (.iload_n 1, 1)), (2, (.iload_n 2, 1)), (3, (.getstatic 1053, 3)), (6, (.invokestatic 1062, 3)), (9, (.pop, 1)), (10, (.return_, 1))]]
set_option maxRecDepth 100000 in
def pmc_335 : pm_T (Instr × Nat) := [[(0, (.aload_n 0, 1)), (1, (.invokevirtual 492, 3)), (4, (.ifCond .eq 12, 3)), (7, (.aload_n 0, 1)), (8, (.getfield 9, 3)), (11, (.iload_n 1, 1)), (12, (.invokestatic 495, 3)), (15, (.ireturn, 1))], [(16, (.aload_n 0, 1)), (17, (.getfield 9, 3)), (20, (.iload_n 1, 1)), (21, (.invokestatic 498, 3)), (24, (.ireturn, 1))]]
set_option maxRecDepth 100000 in
def pmc_336 : pm_T (Instr × Nat) := [[(0, (.iload_n 0, 1)), (1, (.iload_n 1, 1)), (2, (.getstatic 1053, 3)), (5, (.invokestatic 1059, 3)), (8, (.pop, 1)), (9, (.return_, 1))]]
set_option maxRecDepth 100000 in
def pmc_337 : pm_T (Instr × Nat) := [[(0, (.iload_n 1, 1)), (1, (.invokestatic 88, 3)), (4, (.ifCond .ne 5, 3)), (7, (.iconst (-1), 1)), (8, (.ireturn, 1)), (9, (.iload_n 2, 1)), (10, (.iconst 0, 1)), (11, (.invokestatic 92, 3)), (14, (.istore_n 2, 1)), (15, (.iload_n 3, 1))], [(16, (.aload_n 0, 1)), (17, (.arraylength, 1)), (18, (.invokestatic 38, 3)), (21, (.istore_n 3, 1)), (22, (.iload_n 2, 1)), (23, (.iload_n 3, 1)), (24, (.if_icmp .lt 5, 3)), (27, (.iconst (-1), 1)), (28, (.ireturn, 1)), (29, (.aload_n 0, 1)), (30, (.iload_n 1, 1)), (31, (.iload_n 2, 1))], [(32, (.iload_n 3, 1)), (33, (.invokestatic 95, 3)), (36, (.ireturn, 1))]]
set_option maxRecDepth 100000 in
def pmc_338 : pm_T (Instr × Nat) := [[(0, (.iload_n 0, 1)), (1, (.ifCond .lt 14, 3)), (4, (.iload_n 0, 1)), (5, (.sipush 255, 3)), (8, (.if_icmp .gt 7, 3)), (11, (.iconst 1, 1)), (12, (.goto 4, 3)), (15, (.iconst 0, 1))], [(16, (.ireturn, 1))]]
set_option maxRecDepth 100000 in
def pmc_339 : pm_T (Instr × Nat) := [[(0, (.iload_n 1, 1)), (1, (.i2b, 1)), (2, (.istore 4, 2)), (4, (.iload_n 2, 1)), (5, (.istore 5, 2)), (7, (.iload 5, 2)), (9, (.iload_n 3, 1)), (10, (.if_icmp .ge 21, 3)), (13, (.aload_n 0, 1)), (14, (.iload 5, 2))], [(16, (.baload, 1)), (17, (.iload 4, 2)), (19, (.if_icmp .ne 6, 3)), (22, (.iload 5, 2)), (24, (.ireturn, 1)), (25, (.iinc 5 1, 3)), (28, (.goto (-21), 3)), (31, (.iconst (-1), 1))], [(32, (.ireturn, 1))]]
set_option maxRecDepth 100000 in
def pmc_340 : pm_T (Instr × Nat) := [[(0, (.iload_n 1, 1)), (1, (.aload_n 0, 1)), (2, (.arraylength, 1)), (3, (.invokestatic 9, 3)), (6, (.aload_n 0, 1)), (7, (.iload_n 1, 1)), (8, (.baload, 1)), (9, (.sipush 255, 3)), (12, (.iand, 1)), (13, (.i2c, 1)), (14, (.ireturn, 1))]]
end
section
/-! code of the methods (printed by wip/tool out of claim/Statement.lean), in chunks of 16 bytes; each row is what decode gives -/
set_option maxRecDepth 100000 in
def pmc_118 : pm_T (Instr × Nat) := [[(0, (.aload_n 0, 1)), (1, (.invokespecial 1, 3)), (4, (.aload_n 0, 1)), (5, (.new 7, 3)), (8, (.dup, 1)), (9, (.invokespecial 9, 3)), (12, (.putfield 10, 3)), (15, (.aload_n 0, 1))], [(16, (.new 16, 3)), (19, (.dup, 1)), (20, (.invokespecial 18, 3)), (23, (.putfield 19, 3)), (26, (.aload_n 0, 1)), (27, (.new 23, 3)), (30, (.dup, 1)), (31, (.invokespecial 25, 3))], [(34, (.putfield 26, 3)), (37, (.aload_n 0, 1)), (38, (.new 23, 3)), (41, (.dup, 1)), (42, (.invokespecial 25, 3)), (45, (.putfield 30, 3))], [(48, (.aload_n 0, 1)), (49, (.sipush 288, 3)), (52, (.newarray .int, 2)), (54, (.putfield 33, 3)), (57, (.aload_n 0, 1)), (58, (.sipush 288, 3)), (61, (.newarray .int, 2)), (63, (.putfield 37, 3))], [(66, (.aload_n 0, 1)), (67, (.iconst 5, 1)), (68, (.putfield 40, 3)), (71, (.aload_n 0, 1)), (72, (.new 44, 3)), (75, (.dup, 1)), (76, (.invokespecial 46, 3)), (79, (.putfield 47, 3))], [(82, (.aload_n 0, 1)), (83, (.new 51, 3)), (86, (.dup, 1)), (87, (.invokespecial 53, 3)), (90, (.putfield 54, 3)), (93, (.aload_n 0, 1)), (94, (.new 51, 3))], [(97, (.dup, 1)), (98, (.invokespecial 53, 3)), (101, (.putfield 58, 3)), (104, (.aload_n 0, 1)), (105, (.new 61, 3)), (108, (.dup, 1)), (109, (.invokespecial 63, 3))], [(112, (.putfield 64, 3)), (115, (.aload_n 0, 1)), (116, (.new 68, 3)), (119, (.dup, 1)), (120, (.ldc 70, 2)), (122, (.ldc 72, 2)), (124, (.getstatic 74, 3)), (127, (.invokespecial 77, 3))], [(130, (.putfield 80, 3)), (133, (.aload_n 0, 1)), (134, (.new 68, 3)), (137, (.dup, 1)), (138, (.ldc 84, 2)), (140, (.ldc 86, 2)), (142, (.getstatic 88, 3))], [(145, (.invokespecial 77, 3)), (148, (.putfield 91, 3)), (151, (.aload_n 0, 1)), (152, (.new 94, 3)), (155, (.dup, 1)), (156, (.sipush 1000, 3)), (159, (.invokespecial 96, 3))], [(162, (.putfield 99, 3)), (165, (.aload_n 0, 1)), (166, (.iconst 4, 1)), (167, (.anewarray 94, 3)), (170, (.putfield 103, 3)), (173, (.aload_n 0, 1)), (174, (.iconst 4, 1)), (175, (.anewarray 94, 3))], [(178, (.putfield 107, 3)), (181, (.iconst 0, 1)), (182, (.istore_n 1, 1)), (183, (.iload_n 1, 1)), (184, (.iconst 4, 1)), (185, (.if_icmp .ge 37, 3)), (188, (.aload_n 0, 1)), (189, (.getfield 103, 3))], [(192, (.iload_n 1, 1)), (193, (.new 94, 3)), (196, (.dup, 1)), (197, (.iconst 0, 1)), (198, (.invokespecial 96, 3)), (201, (.aastore, 1)), (202, (.aload_n 0, 1)), (203, (.getfield 107, 3)), (206, (.iload_n 1, 1)), (207, (.new 94, 3))], [(210, (.dup, 1)), (211, (.iconst 0, 1)), (212, (.invokespecial 96, 3)), (215, (.aastore, 1)), (216, (.iinc 1 1, 3)), (219, (.goto (-36), 3)), (222, (.aload_n 0, 1)), (223, (.bipush 9, 2))], [(225, (.newarray .int, 2)), (227, (.putfield 110, 3)), (230, (.aload_n 0, 1)), (231, (.new 113, 3)), (234, (.dup, 1)), (235, (.aload_n 0, 1)), (236, (.getfield 10, 3)), (239, (.aload_n 0, 1))], [(240, (.getfield 26, 3)), (243, (.aload_n 0, 1)), (244, (.getfield 19, 3)), (247, (.invokespecial 115, 3)), (250, (.putfield 118, 3)), (253, (.aload_n 0, 1)), (254, (.new 122, 3))], [(257, (.dup, 1)), (258, (.invokespecial 124, 3)), (261, (.putfield 125, 3)), (264, (.aload_n 0, 1)), (265, (.iconst 4, 1)), (266, (.anewarray 129, 3)), (269, (.putfield 131, 3))], [(272, (.iconst 0, 1)), (273, (.istore_n 1, 1)), (274, (.iload_n 1, 1)), (275, (.iconst 4, 1)), (276, (.if_icmp .ge 22, 3)), (279, (.aload_n 0, 1)), (280, (.getfield 131, 3)), (283, (.iload_n 1, 1)), (284, (.new 129, 3)), (287, (.dup, 1))], [(288, (.invokespecial 135, 3)), (291, (.aastore, 1)), (292, (.iinc 1 1, 3)), (295, (.goto (-21), 3)), (298, (.return_, 1))]]
set_option maxRecDepth 100000 in
def pmc_119 : pm_T (Instr × Nat) := [[(0, (.iload_n 1, 1)), (1, (.invokestatic 136, 3)), (4, (.ifCond .eq 32, 3)), (7, (.iload_n 2, 1)), (8, (.invokestatic 140, 3)), (11, (.ifCond .eq 25, 3)), (14, (.iload_n 3, 1)), (15, (.iconst 0, 1))], [(16, (.sipush 999, 3)), (19, (.invokestatic 143, 3)), (22, (.ifCond .eq 14, 3)), (25, (.iload 4, 2)), (27, (.iconst 0, 1)), (28, (.bipush 99, 2)), (30, (.invokestatic 143, 3))], [(33, (.ifCond .ne 5, 3)), (36, (.iconst 0, 1)), (37, (.ireturn, 1)), (38, (.aload_n 0, 1)), (39, (.getfield 10, 3)), (42, (.iload_n 1, 1)), (43, (.iload_n 2, 1)), (44, (.iload_n 3, 1)), (45, (.iload 4, 2)), (47, (.iload 5, 2))], [(49, (.invokevirtual 147, 3)), (52, (.iconst 1, 1)), (53, (.ireturn, 1))]]
set_option maxRecDepth 100000 in
def pmc_120 : pm_T (Instr × Nat) := [[(0, (.iload_n 0, 1)), (1, (.iconst 0, 1)), (2, (.bipush 23, 2)), (4, (.invokestatic 143, 3)), (7, (.ireturn, 1))]]
set_option maxRecDepth 100000 in
def pmc_121 : pm_T (Instr × Nat) := [[(0, (.iload_n 0, 1)), (1, (.iload_n 1, 1)), (2, (.if_icmp .lt 12, 3)), (5, (.iload_n 0, 1)), (6, (.iload_n 2, 1)), (7, (.if_icmp .gt 7, 3)), (10, (.iconst 1, 1)), (11, (.goto 4, 3)), (14, (.iconst 0, 1)), (15, (.ireturn, 1))]]
set_option maxRecDepth 100000 in
def pmc_122 : pm_T (Instr × Nat) := [[(0, (.iload_n 0, 1)), (1, (.iconst 0, 1)), (2, (.iconst 1, 1)), (3, (.invokestatic 143, 3)), (6, (.ireturn, 1))]]
set_option maxRecDepth 100000 in
def pmc_123 : pm_T (Instr × Nat) := [[(0, (.aload_n 0, 1)), (1, (.iload_n 1, 1)), (2, (.invokevirtual 151, 3)), (5, (.ifCond .eq 10, 3)), (8, (.iload_n 2, 1)), (9, (.invokestatic 154, 3)), (12, (.ifCond .ne 5, 3)), (15, (.iconst 0, 1))], [(16, (.ireturn, 1)), (17, (.iload_n 3, 1)), (18, (.iconst (-1), 1)), (19, (.if_icmp .ne 20, 3)), (22, (.iload 4, 2)), (24, (.iconst (-1), 1)), (25, (.if_icmp .ne 14, 3)), (28, (.aload_n 0, 1)), (29, (.getfield 26, 3))], [(32, (.iload_n 1, 1)), (33, (.iload_n 2, 1)), (34, (.invokevirtual 157, 3)), (37, (.iconst 1, 1)), (38, (.ireturn, 1)), (39, (.iload_n 3, 1)), (40, (.iconst 0, 1)), (41, (.bipush 99, 2)), (43, (.invokestatic 143, 3)), (46, (.ifCond .ne 5, 3))], [(49, (.iconst 0, 1)), (50, (.ireturn, 1)), (51, (.iload 4, 2)), (53, (.iconst (-1), 1)), (54, (.if_icmp .ne 14, 3)), (57, (.aload_n 0, 1)), (58, (.getfield 26, 3)), (61, (.iload_n 1, 1)), (62, (.iload_n 2, 1)), (63, (.invokevirtual 161, 3))], [(66, (.iconst 1, 1)), (67, (.ireturn, 1)), (68, (.iload 4, 2)), (70, (.iconst 0, 1)), (71, (.bipush 99, 2)), (73, (.invokestatic 143, 3)), (76, (.ifCond .ne 5, 3)), (79, (.iconst 0, 1))], [(80, (.ireturn, 1)), (81, (.aload_n 0, 1)), (82, (.getfield 26, 3)), (85, (.iload_n 1, 1)), (86, (.iload_n 2, 1)), (87, (.iload_n 3, 1)), (88, (.iload 4, 2)), (90, (.invokevirtual 164, 3)), (93, (.iconst 1, 1)), (94, (.ireturn, 1))]]
set_option maxRecDepth 100000 in
def pmc_124 : pm_T (Instr × Nat) := [[(0, (.iload_n 1, 1)), (1, (.invokestatic 136, 3)), (4, (.ifCond .eq 18, 3)), (7, (.aload_n 0, 1)), (8, (.getfield 10, 3)), (11, (.iload_n 1, 1)), (12, (.invokevirtual 225, 3)), (15, (.ifCond .eq 7, 3))], [(18, (.iconst 1, 1)), (19, (.goto 4, 3)), (22, (.iconst 0, 1)), (23, (.ireturn, 1))]]
set_option maxRecDepth 100000 in
def pmc_125 : pm_T (Instr × Nat) := [[(0, (.iload_n 0, 1)), (1, (.iconst 0, 1)), (2, (.bipush 11, 2)), (4, (.invokestatic 143, 3)), (7, (.ireturn, 1))]]
set_option maxRecDepth 100000 in
def pmc_126 : pm_T (Instr × Nat) := [[(0, (.aload_n 0, 1)), (1, (.iload_n 1, 1)), (2, (.invokevirtual 151, 3)), (5, (.ifCond .eq 31, 3)), (8, (.iload_n 2, 1)), (9, (.invokestatic 154, 3)), (12, (.ifCond .eq 24, 3)), (15, (.iload_n 3, 1))], [(16, (.iconst 0, 1)), (17, (.bipush 99, 2)), (19, (.invokestatic 143, 3)), (22, (.ifCond .eq 14, 3)), (25, (.iload 4, 2)), (27, (.iconst 0, 1)), (28, (.bipush 99, 2)), (30, (.invokestatic 143, 3))], [(33, (.ifCond .ne 5, 3)), (36, (.iconst 0, 1)), (37, (.ireturn, 1)), (38, (.aload_n 0, 1)), (39, (.getfield 30, 3)), (42, (.iload_n 1, 1)), (43, (.iload_n 2, 1)), (44, (.iload_n 3, 1)), (45, (.iload 4, 2)), (47, (.invokevirtual 164, 3))], [(50, (.iconst 1, 1)), (51, (.ireturn, 1))]]
set_option maxRecDepth 100000 in
def pmc_127 : pm_T (Instr × Nat) := [[(0, (.iload_n 1, 1)), (1, (.iconst 0, 1)), (2, (.bipush 10, 2)), (4, (.invokestatic 143, 3)), (7, (.ifCond .ne 5, 3)), (10, (.iconst 0, 1)), (11, (.ireturn, 1)), (12, (.aload_n 0, 1)), (13, (.iload_n 1, 1)), (14, (.putfield 40, 3))], [(17, (.iconst 1, 1)), (18, (.ireturn, 1))]]
set_option maxRecDepth 100000 in
def pmc_128 : pm_T (Instr × Nat) := [[(0, (.iload_n 1, 1)), (1, (.invokestatic 140, 3)), (4, (.ifCond .eq 33, 3)), (7, (.iload_n 2, 1)), (8, (.invokestatic 154, 3)), (11, (.ifCond .eq 26, 3)), (14, (.iload_n 3, 1)), (15, (.iconst 0, 1))], [(16, (.sipush 999, 3)), (19, (.invokestatic 143, 3)), (22, (.ifCond .eq 15, 3)), (25, (.iload 4, 2)), (27, (.bipush (-99), 2)), (29, (.bipush 99, 2)), (31, (.invokestatic 143, 3))], [(34, (.ifCond .ne 5, 3)), (37, (.iconst 0, 1)), (38, (.ireturn, 1)), (39, (.aload_n 0, 1)), (40, (.getfield 19, 3)), (43, (.iload_n 1, 1)), (44, (.iload_n 2, 1)), (45, (.iload_n 3, 1)), (46, (.iload 4, 2))], [(48, (.invokevirtual 168, 3)), (51, (.iconst 1, 1)), (52, (.ireturn, 1))]]
set_option maxRecDepth 100000 in
def pmc_129 : pm_T (Instr × Nat) := [[(0, (.aload_n 0, 1)), (1, (.iload_n 1, 1)), (2, (.invokevirtual 151, 3)), (5, (.ifCond .eq 22, 3)), (8, (.iload_n 2, 1)), (9, (.invokestatic 154, 3)), (12, (.ifCond .eq 15, 3)), (15, (.aload_n 0, 1))], [(16, (.getfield 26, 3)), (19, (.iload_n 1, 1)), (20, (.iload_n 2, 1)), (21, (.invokevirtual 171, 3)), (24, (.ifCond .eq 5, 3)), (27, (.iconst (-1), 1)), (28, (.ireturn, 1)), (29, (.aload_n 0, 1)), (30, (.getfield 26, 3))], [(33, (.iload_n 1, 1)), (34, (.iload_n 2, 1)), (35, (.aload_n 0, 1)), (36, (.getfield 40, 3)), (39, (.invokevirtual 175, 3)), (42, (.ireturn, 1))]]
set_option maxRecDepth 100000 in
def pmc_130 : pm_T (Instr × Nat) := [[(0, (.iload_n 1, 1)), (1, (.iload_n 2, 1)), (2, (.invokestatic 179, 3)), (5, (.ifCond .ne 5, 3)), (8, (.iconst (-1), 1)), (9, (.ireturn, 1)), (10, (.aload_n 0, 1)), (11, (.iload_n 1, 1)), (12, (.iload_n 2, 1)), (13, (.iconst 0, 1)), (14, (.invokevirtual 241, 3))], [(17, (.aload_n 0, 1)), (18, (.getfield 47, 3)), (21, (.aload_n 0, 1)), (22, (.getfield 54, 3)), (25, (.invokevirtual 210, 3)), (28, (.ifCond .ne 5, 3)), (31, (.iconst (-1), 1))], [(32, (.ireturn, 1)), (33, (.aload_n 0, 1)), (34, (.iload_n 1, 1)), (35, (.iload_n 2, 1)), (36, (.iconst 1, 1)), (37, (.invokevirtual 241, 3)), (40, (.aload_n 0, 1)), (41, (.getfield 47, 3)), (44, (.aload_n 0, 1)), (45, (.getfield 58, 3))], [(48, (.invokevirtual 210, 3)), (51, (.ifCond .ne 5, 3)), (54, (.iconst (-1), 1)), (55, (.ireturn, 1)), (56, (.aload_n 0, 1)), (57, (.getfield 54, 3)), (60, (.invokevirtual 248, 3)), (63, (.ifCond .gt 17, 3))], [(66, (.aload_n 0, 1)), (67, (.getfield 58, 3)), (70, (.invokevirtual 248, 3)), (73, (.ifCond .lt 7, 3)), (76, (.iconst 1, 1)), (77, (.goto 4, 3))], [(80, (.iconst 0, 1)), (81, (.ireturn, 1))]]
set_option maxRecDepth 100000 in
def pmc_131 : pm_T (Instr × Nat) := [[(0, (.iload_n 0, 1)), (1, (.invokestatic 154, 3)), (4, (.ifCond .eq 19, 3)), (7, (.iload_n 1, 1)), (8, (.invokestatic 154, 3)), (11, (.ifCond .eq 12, 3)), (14, (.iload_n 0, 1)), (15, (.iload_n 1, 1))], [(16, (.if_icmp .eq 7, 3)), (19, (.iconst 1, 1)), (20, (.goto 4, 3)), (23, (.iconst 0, 1)), (24, (.ireturn, 1))]]
set_option maxRecDepth 100000 in
def pmc_132 : pm_T (Instr × Nat) := [[(0, (.aload_n 0, 1)), (1, (.getfield 47, 3)), (4, (.invokevirtual 222, 3)), (7, (.iconst 0, 1)), (8, (.istore 4, 2)), (10, (.iload 4, 2)), (12, (.bipush 24, 2)), (14, (.if_icmp .ge 98, 3))], [(17, (.aload_n 0, 1)), (18, (.getfield 10, 3)), (21, (.iload 4, 2)), (23, (.invokevirtual 225, 3)), (26, (.ifCond .eq 80, 3)), (29, (.aload_n 0, 1)), (30, (.getfield 10, 3))], [(33, (.iload 4, 2)), (35, (.invokevirtual 228, 3)), (38, (.ifCond .ne 7, 3)), (41, (.iconst 1, 1)), (42, (.goto 4, 3)), (45, (.iconst 0, 1)), (46, (.iload_n 3, 1)), (47, (.if_icmp .ne 7, 3))], [(50, (.iconst 1, 1)), (51, (.goto 4, 3)), (54, (.iconst 0, 1)), (55, (.istore 5, 2)), (57, (.aload_n 0, 1)), (58, (.iload 4, 2)), (60, (.iload_n 2, 1)), (61, (.iload 5, 2)), (63, (.invokevirtual 261, 3))], [(66, (.aload_n 0, 1)), (67, (.iload 4, 2)), (69, (.iload_n 1, 1)), (70, (.iload 5, 2)), (72, (.ifCond .ne 7, 3)), (75, (.iconst 1, 1)), (76, (.goto 4, 3)), (79, (.iconst 0, 1))], [(80, (.invokevirtual 261, 3)), (83, (.isub, 1)), (84, (.istore 6, 2)), (86, (.aload_n 0, 1)), (87, (.getfield 47, 3)), (90, (.iload 4, 2)), (92, (.aload_n 0, 1)), (93, (.getfield 10, 3))], [(96, (.iload 4, 2)), (98, (.invokevirtual 228, 3)), (101, (.iload 6, 2)), (103, (.invokevirtual 232, 3)), (106, (.iinc 4 1, 3)), (109, (.goto (-99), 3))], [(112, (.return_, 1))]]
set_option maxRecDepth 100000 in
def pmc_133 : pm_T (Instr × Nat) := [[(0, (.aload_n 0, 1)), (1, (.getfield 26, 3)), (4, (.iload_n 1, 1)), (5, (.iload_n 2, 1)), (6, (.invokevirtual 171, 3)), (9, (.ifCond .ne 17, 3)), (12, (.aload_n 0, 1)), (13, (.getfield 26, 3))], [(16, (.iload_n 1, 1)), (17, (.iload_n 2, 1)), (18, (.aload_n 0, 1)), (19, (.getfield 40, 3)), (22, (.invokevirtual 175, 3)), (25, (.ireturn, 1)), (26, (.iload_n 3, 1)), (27, (.ifCond .eq 17, 3)), (30, (.bipush 10, 2))], [(32, (.aload_n 0, 1)), (33, (.getfield 10, 3)), (36, (.iload_n 1, 1)), (37, (.invokevirtual 255, 3)), (40, (.imul, 1)), (41, (.goto 4, 3)), (44, (.iconst 0, 1)), (45, (.ireturn, 1))]]
set_option maxRecDepth 100000 in
def pmc_134 : pm_T (Instr × Nat) := [[(0, (.iload_n 1, 1)), (1, (.iload_n 2, 1)), (2, (.invokestatic 179, 3)), (5, (.ifCond .eq 25, 3)), (8, (.aload_n 0, 1)), (9, (.getfield 10, 3)), (12, (.iconst 0, 1)), (13, (.invokevirtual 252, 3))], [(16, (.ifCond .eq 14, 3)), (19, (.aload_n 0, 1)), (20, (.getfield 10, 3)), (23, (.iconst 1, 1)), (24, (.invokevirtual 252, 3)), (27, (.ifCond .ne 5, 3)), (30, (.iconst (-1), 1)), (31, (.ireturn, 1))], [(32, (.iconst (-1), 1)), (33, (.istore_n 3, 1)), (34, (.lconst 0, 1)), (35, (.lstore 4, 2)), (37, (.lconst 1, 1)), (38, (.lstore 6, 2)), (40, (.iconst 0, 1)), (41, (.istore 8, 2)), (43, (.iload 8, 2)), (45, (.bipush 24, 2)), (47, (.if_icmp .ge 106, 3))], [(50, (.aload_n 0, 1)), (51, (.getfield 10, 3)), (54, (.iload 8, 2)), (56, (.invokevirtual 225, 3)), (59, (.ifCond .eq 88, 3)), (62, (.aload_n 0, 1)), (63, (.getfield 26, 3))], [(66, (.iload 8, 2)), (68, (.iload_n 1, 1)), (69, (.iload_n 2, 1)), (70, (.invokevirtual 192, 3)), (73, (.ifCond .ne 74, 3)), (76, (.aload_n 0, 1)), (77, (.getfield 10, 3))], [(80, (.iload 8, 2)), (82, (.invokevirtual 255, 3)), (85, (.i2l, 1)), (86, (.aload_n 0, 1)), (87, (.iload 8, 2)), (89, (.iload_n 1, 1)), (90, (.iload_n 2, 1)), (91, (.invokevirtual 258, 3)), (94, (.i2l, 1)), (95, (.lmul, 1))], [(96, (.lstore 9, 2)), (98, (.aload_n 0, 1)), (99, (.getfield 10, 3)), (102, (.aload_n 0, 1)), (103, (.getfield 10, 3)), (106, (.iload 8, 2)), (108, (.invokevirtual 228, 3)), (111, (.invokevirtual 252, 3))], [(114, (.i2l, 1)), (115, (.lstore 11, 2)), (117, (.iload_n 3, 1)), (118, (.iconst (-1), 1)), (119, (.if_icmp .eq 17, 3)), (122, (.lload 9, 2)), (124, (.lload 6, 2)), (126, (.lmul, 1)), (127, (.lload 4, 2))], [(129, (.lload 11, 2)), (131, (.lmul, 1)), (132, (.lcmp, 1)), (133, (.ifCond .le 14, 3)), (136, (.iload 8, 2)), (138, (.istore_n 3, 1)), (139, (.lload 9, 2)), (141, (.lstore 4, 2)), (143, (.lload 11, 2))], [(145, (.lstore 6, 2)), (147, (.iinc 8 1, 3)), (150, (.goto (-107), 3)), (153, (.iload_n 3, 1)), (154, (.ireturn, 1))]]
set_option maxRecDepth 100000 in
def pmc_135 : pm_T (Instr × Nat) := [[(0, (.aload_n 0, 1)), (1, (.getfield 26, 3)), (4, (.iload_n 1, 1)), (5, (.iload_n 2, 1)), (6, (.invokevirtual 171, 3)), (9, (.ifCond .eq 7, 3)), (12, (.iconst 1, 1)), (13, (.goto 4, 3))], [(16, (.iconst 0, 1)), (17, (.aload_n 0, 1)), (18, (.getfield 26, 3)), (21, (.iload_n 1, 1)), (22, (.iload_n 3, 1)), (23, (.invokevirtual 171, 3)), (26, (.ifCond .eq 7, 3)), (29, (.iconst 1, 1)), (30, (.goto 4, 3))], [(33, (.iconst 0, 1)), (34, (.iadd, 1)), (35, (.ireturn, 1))]]
set_option maxRecDepth 100000 in
def pmc_136 : pm_T (Instr × Nat) := [[(0, (.iload_n 1, 1)), (1, (.iload_n 2, 1)), (2, (.invokestatic 179, 3)), (5, (.ifCond .eq 10, 3)), (8, (.iload_n 3, 1)), (9, (.invokestatic 201, 3)), (12, (.ifCond .ne 7, 3)), (15, (.ldc2_w 276, 3))], [(18, (.lreturn, 1)), (19, (.aload_n 0, 1)), (20, (.iload_n 1, 1)), (21, (.iload_n 2, 1)), (22, (.invokevirtual 204, 3)), (25, (.aload_n 0, 1)), (26, (.getfield 47, 3)), (29, (.invokevirtual 278, 3))], [(32, (.ifCond .ne 25, 3)), (35, (.aload_n 0, 1)), (36, (.getfield 47, 3)), (39, (.iconst 0, 1)), (40, (.invokevirtual 268, 3)), (43, (.aload_n 0, 1)), (44, (.getfield 47, 3)), (47, (.iconst 1, 1))], [(48, (.invokevirtual 268, 3)), (51, (.iadd, 1)), (52, (.bipush 14, 2)), (54, (.if_icmp .le 7, 3)), (57, (.ldc2_w 276, 3)), (60, (.lreturn, 1)), (61, (.aload_n 0, 1)), (62, (.getfield 47, 3))], [(65, (.aload_n 0, 1)), (66, (.getfield 54, 3)), (69, (.invokevirtual 282, 3)), (72, (.aload_n 0, 1)), (73, (.getfield 54, 3)), (76, (.iload_n 3, 1)), (77, (.invokevirtual 214, 3))], [(80, (.lreturn, 1))]]
set_option maxRecDepth 100000 in
def pmc_137 : pm_T (Instr × Nat) := [[(0, (.iload_n 0, 1)), (1, (.iconst 0, 1)), (2, (.iconst 1, 1)), (3, (.invokestatic 143, 3)), (6, (.ireturn, 1))]]
set_option maxRecDepth 100000 in
def pmc_138 : pm_T (Instr × Nat) := [[(0, (.aload_n 0, 1)), (1, (.getfield 47, 3)), (4, (.invokevirtual 222, 3)), (7, (.iconst 0, 1)), (8, (.istore_n 3, 1)), (9, (.iload_n 3, 1)), (10, (.bipush 24, 2)), (12, (.if_icmp .ge 63, 3)), (15, (.aload_n 0, 1))], [(16, (.getfield 10, 3)), (19, (.iload_n 3, 1)), (20, (.invokevirtual 225, 3)), (23, (.ifCond .eq 46, 3)), (26, (.aload_n 0, 1)), (27, (.getfield 26, 3)), (30, (.iload_n 3, 1)), (31, (.iload_n 1, 1))], [(32, (.iload_n 2, 1)), (33, (.invokevirtual 192, 3)), (36, (.ifCond .eq 33, 3)), (39, (.aload_n 0, 1)), (40, (.getfield 47, 3)), (43, (.iload_n 3, 1)), (44, (.aload_n 0, 1)), (45, (.getfield 10, 3))], [(48, (.iload_n 3, 1)), (49, (.invokevirtual 228, 3)), (52, (.aload_n 0, 1)), (53, (.getfield 26, 3)), (56, (.iload_n 3, 1)), (57, (.iload_n 1, 1)), (58, (.iload_n 2, 1)), (59, (.aload_n 0, 1)), (60, (.getfield 40, 3)), (63, (.invokevirtual 198, 3))], [(66, (.invokevirtual 232, 3)), (69, (.iinc 3 1, 3)), (72, (.goto (-63), 3)), (75, (.return_, 1))]]
set_option maxRecDepth 100000 in
def pmc_139 : pm_T (Instr × Nat) := [[(0, (.iload_n 1, 1)), (1, (.iconst 1, 1)), (2, (.bipush 11, 2)), (4, (.invokestatic 143, 3)), (7, (.ifCond .eq 12, 3)), (10, (.iload_n 2, 1)), (11, (.iconst 0, 1)), (12, (.iconst 2, 1)), (13, (.invokestatic 143, 3))], [(16, (.ifCond .ne 7, 3)), (19, (.ldc2_w 276, 3)), (22, (.lreturn, 1)), (23, (.iconst 0, 1)), (24, (.istore_n 3, 1)), (25, (.aload_n 0, 1)), (26, (.getfield 58, 3)), (29, (.lconst 0, 1)), (30, (.lconst 1, 1)), (31, (.invokevirtual 273, 3))], [(34, (.iconst 1, 1)), (35, (.istore 4, 2)), (37, (.iload 4, 2)), (39, (.iload_n 1, 1)), (40, (.if_icmp .gt 68, 3)), (43, (.aload_n 0, 1)), (44, (.iload 4, 2)), (46, (.iconst 1, 1)), (47, (.isub, 1))], [(48, (.iload 4, 2)), (50, (.invokevirtual 204, 3)), (53, (.aload_n 0, 1)), (54, (.getfield 47, 3)), (57, (.aload_n 0, 1)), (58, (.getfield 54, 3)), (61, (.invokevirtual 210, 3))], [(64, (.ifCond .eq 38, 3)), (67, (.iinc 3 1, 3)), (70, (.aload_n 0, 1)), (71, (.getfield 54, 3)), (74, (.invokevirtual 295, 3)), (77, (.aload_n 0, 1)), (78, (.getfield 58, 3))], [(81, (.aload_n 0, 1)), (82, (.getfield 54, 3)), (85, (.invokevirtual 298, 3)), (88, (.ifCond .eq 14, 3)), (91, (.aload_n 0, 1)), (92, (.getfield 58, 3)), (95, (.aload_n 0, 1))], [(96, (.getfield 54, 3)), (99, (.invokevirtual 301, 3)), (102, (.iinc 4 1, 3)), (105, (.goto (-68), 3)), (108, (.iload_n 2, 1)), (109, (.ifCond .ne 6, 3))], [(112, (.iload_n 3, 1)), (113, (.i2l, 1)), (114, (.lreturn, 1)), (115, (.iload_n 3, 1)), (116, (.ifCond .ne 9, 3)), (119, (.ldc2_w 276, 3)), (122, (.goto 13, 3)), (125, (.aload_n 0, 1)), (126, (.getfield 58, 3))], [(129, (.iload_n 2, 1)), (130, (.iconst 1, 1)), (131, (.isub, 1)), (132, (.invokevirtual 214, 3)), (135, (.lreturn, 1))]]
set_option maxRecDepth 100000 in
def pmc_140 : pm_T (Instr × Nat) := [[(0, (.aload_n 0, 1)), (1, (.getfield 64, 3)), (4, (.lload_n 1, 1)), (5, (.invokevirtual 304, 3)), (8, (.aload_n 0, 1)), (9, (.getfield 64, 3)), (12, (.lload_n 3, 1)), (13, (.invokevirtual 304, 3))], [(16, (.aload_n 0, 1)), (17, (.getfield 64, 3)), (20, (.lload 5, 2)), (22, (.invokevirtual 304, 3)), (25, (.aload_n 0, 1)), (26, (.getfield 64, 3)), (29, (.invokevirtual 308, 3))], [(32, (.ireturn, 1))]]
set_option maxRecDepth 100000 in
def pmc_141 : pm_T (Instr × Nat) := [[(0, (.iload_n 1, 1)), (1, (.invokestatic 311, 3)), (4, (.ifCond .ne 12, 3)), (7, (.aload_n 0, 1)), (8, (.getfield 64, 3)), (11, (.invokevirtual 314, 3)), (14, (.iconst (-1), 1)), (15, (.ireturn, 1))], [(16, (.aload_n 0, 1)), (17, (.aload_n 0, 1)), (18, (.getfield 80, 3)), (21, (.aload_n 0, 1)), (22, (.getfield 103, 3)), (25, (.iload_n 1, 1)), (26, (.aaload, 1)), (27, (.invokevirtual 317, 3)), (30, (.ireturn, 1))]]
set_option maxRecDepth 100000 in
def pmc_142 : pm_T (Instr × Nat) := [[(0, (.iload_n 0, 1)), (1, (.iconst 0, 1)), (2, (.iconst 3, 1)), (3, (.invokestatic 143, 3)), (6, (.ireturn, 1))]]
set_option maxRecDepth 100000 in
def pmc_143 : pm_T (Instr × Nat) := [[(0, (.aload_n 1, 1)), (1, (.aload_n 0, 1)), (2, (.getfield 64, 3)), (5, (.aload_n 0, 1)), (6, (.getfield 99, 3)), (9, (.invokevirtual 321, 3)), (12, (.istore_n 3, 1)), (13, (.aload_n 0, 1)), (14, (.getfield 64, 3))], [(17, (.invokevirtual 314, 3)), (20, (.iload_n 3, 1)), (21, (.ifCond .ne 11, 3)), (24, (.aload_n 2, 1)), (25, (.aload_n 0, 1)), (26, (.getfield 99, 3)), (29, (.invokevirtual 325, 3))], [(32, (.iload_n 3, 1)), (33, (.ireturn, 1))]]
set_option maxRecDepth 100000 in
def pmc_144 : pm_T (Instr × Nat) := [[(0, (.iload_n 1, 1)), (1, (.invokestatic 311, 3)), (4, (.ifCond .eq 30, 3)), (7, (.iload_n 2, 1)), (8, (.iconst 0, 1)), (9, (.sipush 9999, 3)), (12, (.invokestatic 143, 3)), (15, (.ifCond .eq 19, 3))], [(18, (.aload_n 0, 1)), (19, (.iload_n 3, 1)), (20, (.invokevirtual 151, 3)), (23, (.ifCond .eq 11, 3)), (26, (.iload 4, 2)), (28, (.invokestatic 154, 3)), (31, (.ifCond .ne 5, 3))], [(34, (.iconst (-1), 1)), (35, (.ireturn, 1)), (36, (.aload_n 0, 1)), (37, (.getfield 118, 3)), (40, (.aload_n 0, 1)), (41, (.getfield 103, 3)), (44, (.iload_n 1, 1)), (45, (.aaload, 1)), (46, (.iload_n 2, 1)), (47, (.iload 4, 2))], [(49, (.invokevirtual 328, 3)), (52, (.aload_n 0, 1)), (53, (.getfield 118, 3)), (56, (.invokevirtual 332, 3)), (59, (.iload_n 3, 1)), (60, (.iload 4, 2)), (62, (.aload_n 0, 1)), (63, (.getfield 40, 3))], [(66, (.invokevirtual 175, 3)), (69, (.ireturn, 1))]]
set_option maxRecDepth 100000 in
def pmc_145 : pm_T (Instr × Nat) := [[(0, (.iload_n 1, 1)), (1, (.invokestatic 311, 3)), (4, (.ifCond .eq 13, 3)), (7, (.iload_n 2, 1)), (8, (.iconst 1, 1)), (9, (.bipush 20, 2)), (11, (.invokestatic 143, 3)), (14, (.ifCond .ne 7, 3))], [(17, (.ldc2_w 276, 3)), (20, (.lreturn, 1)), (21, (.aload_n 0, 1)), (22, (.aload_n 0, 1)), (23, (.getfield 103, 3)), (26, (.iload_n 1, 1)), (27, (.aaload, 1)), (28, (.iload_n 2, 1)), (29, (.invokevirtual 336, 3))], [(32, (.lreturn, 1))]]
set_option maxRecDepth 100000 in
def pmc_146 : pm_T (Instr × Nat) := [[(0, (.lconst 0, 1)), (1, (.lstore_n 3, 1)), (2, (.iconst 0, 1)), (3, (.istore 5, 2)), (5, (.iload 5, 2)), (7, (.iload_n 2, 1)), (8, (.if_icmp .ge 58, 3)), (11, (.aload_n 0, 1)), (12, (.getfield 118, 3)), (15, (.aload_n 1, 1))], [(16, (.iload 5, 2)), (18, (.bipush 11, 2)), (20, (.invokevirtual 328, 3)), (23, (.iconst 0, 1)), (24, (.istore 6, 2)), (26, (.iload 6, 2)), (28, (.bipush 24, 2)), (30, (.if_icmp .ge 30, 3))], [(33, (.aload_n 0, 1)), (34, (.getfield 10, 3)), (37, (.iload 6, 2)), (39, (.invokevirtual 225, 3)), (42, (.ifCond .eq 12, 3)), (45, (.lload_n 3, 1)), (46, (.aload_n 0, 1)), (47, (.iload 6, 2))], [(49, (.invokevirtual 340, 3)), (52, (.ladd, 1)), (53, (.lstore_n 3, 1)), (54, (.iinc 6 1, 3)), (57, (.goto (-31), 3)), (60, (.iinc 5 1, 3)), (63, (.goto (-58), 3))], [(66, (.lload_n 3, 1)), (67, (.lreturn, 1))]]
set_option maxRecDepth 100000 in
def pmc_147 : pm_T (Instr × Nat) := [[(0, (.lconst 0, 1)), (1, (.lstore_n 2, 1)), (2, (.iconst 1, 1)), (3, (.istore 4, 2)), (5, (.iload 4, 2)), (7, (.bipush 12, 2)), (9, (.if_icmp .ge 65, 3)), (12, (.aload_n 0, 1)), (13, (.getfield 26, 3))], [(16, (.iload_n 1, 1)), (17, (.iload 4, 2)), (19, (.invokevirtual 171, 3)), (22, (.ifCond .ne 46, 3)), (25, (.aload_n 0, 1)), (26, (.getfield 26, 3)), (29, (.iload_n 1, 1)), (30, (.iload 4, 2))], [(32, (.aload_n 0, 1)), (33, (.getfield 40, 3)), (36, (.invokevirtual 175, 3)), (39, (.istore 5, 2)), (41, (.lload_n 2, 1)), (42, (.aload_n 0, 1)), (43, (.getfield 118, 3)), (46, (.invokevirtual 332, 3))], [(49, (.iload_n 1, 1)), (50, (.iload 4, 2)), (52, (.aload_n 0, 1)), (53, (.getfield 40, 3)), (56, (.invokevirtual 175, 3)), (59, (.iload 5, 2)), (61, (.isub, 1)), (62, (.invokestatic 343, 3))], [(65, (.i2l, 1)), (66, (.ladd, 1)), (67, (.lstore_n 2, 1)), (68, (.iinc 4 1, 3)), (71, (.goto (-66), 3)), (74, (.lload_n 2, 1)), (75, (.lreturn, 1))]]
set_option maxRecDepth 100000 in
def pmc_148 : pm_T (Instr × Nat) := [[(0, (.iload_n 1, 1)), (1, (.iconst 1, 1)), (2, (.bipush 20, 2)), (4, (.invokestatic 143, 3)), (7, (.ifCond .ne 5, 3)), (10, (.iconst (-1), 1)), (11, (.ireturn, 1)), (12, (.iconst 0, 1)), (13, (.istore_n 2, 1)), (14, (.aload_n 0, 1)), (15, (.aload_n 0, 1))], [(16, (.getfield 103, 3)), (19, (.iconst 0, 1)), (20, (.aaload, 1)), (21, (.iload_n 1, 1)), (22, (.invokevirtual 336, 3)), (25, (.lstore_n 3, 1)), (26, (.iconst 1, 1)), (27, (.istore 5, 2)), (29, (.iload 5, 2)), (31, (.iconst 4, 1))], [(32, (.if_icmp .ge 36, 3)), (35, (.aload_n 0, 1)), (36, (.aload_n 0, 1)), (37, (.getfield 103, 3)), (40, (.iload 5, 2)), (42, (.aaload, 1)), (43, (.iload_n 1, 1)), (44, (.invokevirtual 336, 3)), (47, (.lstore 6, 2))], [(49, (.lload 6, 2)), (51, (.lload_n 3, 1)), (52, (.lcmp, 1)), (53, (.ifCond .ge 9, 3)), (56, (.lload 6, 2)), (58, (.lstore_n 3, 1)), (59, (.iload 5, 2)), (61, (.istore_n 2, 1)), (62, (.iinc 5 1, 3))], [(65, (.goto (-36), 3)), (68, (.iload_n 2, 1)), (69, (.ireturn, 1))]]
set_option maxRecDepth 100000 in
def pmc_149 : pm_T (Instr × Nat) := [[(0, (.iload_n 1, 1)), (1, (.invokestatic 311, 3)), (4, (.ifCond .eq 32, 3)), (7, (.iload_n 2, 1)), (8, (.iconst 1, 1)), (9, (.bipush 20, 2)), (11, (.invokestatic 143, 3)), (14, (.ifCond .eq 22, 3))], [(17, (.iload_n 3, 1)), (18, (.iload 4, 2)), (20, (.invokestatic 179, 3)), (23, (.ifCond .eq 13, 3)), (26, (.iload 5, 2)), (28, (.iconst 0, 1)), (29, (.iconst 2, 1)), (30, (.invokestatic 143, 3))], [(33, (.ifCond .ne 5, 3)), (36, (.iconst (-1), 1)), (37, (.ireturn, 1)), (38, (.aload_n 0, 1)), (39, (.iload_n 3, 1)), (40, (.iload 4, 2)), (42, (.invokevirtual 204, 3)), (45, (.aload_n 0, 1)), (46, (.getfield 47, 3))], [(49, (.invokevirtual 278, 3)), (52, (.ifCond .eq 5, 3)), (55, (.iconst (-1), 1)), (56, (.ireturn, 1)), (57, (.iconst 0, 1)), (58, (.istore 6, 2)), (60, (.iconst 0, 1)), (61, (.istore 7, 2)), (63, (.iload 7, 2))], [(65, (.iload_n 2, 1)), (66, (.if_icmp .ge 68, 3)), (69, (.aload_n 0, 1)), (70, (.getfield 118, 3)), (73, (.aload_n 0, 1)), (74, (.getfield 103, 3)), (77, (.iload_n 1, 1)), (78, (.aaload, 1)), (79, (.iload 7, 2))], [(81, (.iload_n 3, 1)), (82, (.iload 4, 2)), (84, (.invokestatic 348, 3)), (87, (.invokevirtual 328, 3)), (90, (.aload_n 0, 1)), (91, (.iload_n 3, 1)), (92, (.iload 4, 2)), (94, (.invokevirtual 351, 3))], [(97, (.aload_n 0, 1)), (98, (.getfield 47, 3)), (101, (.aload_n 0, 1)), (102, (.getfield 54, 3)), (105, (.invokevirtual 210, 3)), (108, (.ifCond .eq 20, 3)), (111, (.aload_n 0, 1))], [(112, (.getfield 54, 3)), (115, (.invokevirtual 248, 3)), (118, (.iload 5, 2)), (120, (.iconst 1, 1)), (121, (.isub, 1)), (122, (.if_icmp .ne 6, 3)), (125, (.iinc 6 1, 3))], [(128, (.iinc 7 1, 3)), (131, (.goto (-68), 3)), (134, (.iload 6, 2)), (136, (.ireturn, 1))]]
set_option maxRecDepth 100000 in
def pmc_150 : pm_T (Instr × Nat) := [[(0, (.aload_n 0, 1)), (1, (.getfield 47, 3)), (4, (.invokevirtual 222, 3)), (7, (.iconst 0, 1)), (8, (.istore_n 3, 1)), (9, (.iload_n 3, 1)), (10, (.bipush 24, 2)), (12, (.if_icmp .ge 66, 3)), (15, (.aload_n 0, 1))], [(16, (.getfield 10, 3)), (19, (.iload_n 3, 1)), (20, (.invokevirtual 225, 3)), (23, (.ifCond .eq 49, 3)), (26, (.aload_n 0, 1)), (27, (.getfield 26, 3)), (30, (.iload_n 3, 1)), (31, (.iload_n 1, 1))], [(32, (.iload_n 2, 1)), (33, (.invokevirtual 192, 3)), (36, (.ifCond .eq 36, 3)), (39, (.aload_n 0, 1)), (40, (.getfield 47, 3)), (43, (.iload_n 3, 1)), (44, (.aload_n 0, 1)), (45, (.getfield 10, 3))], [(48, (.iload_n 3, 1)), (49, (.invokevirtual 228, 3)), (52, (.aload_n 0, 1)), (53, (.getfield 118, 3)), (56, (.invokevirtual 332, 3)), (59, (.iload_n 3, 1)), (60, (.iload_n 1, 1)), (61, (.iload_n 2, 1)), (62, (.aload_n 0, 1)), (63, (.getfield 40, 3))], [(66, (.invokevirtual 198, 3)), (69, (.invokevirtual 232, 3)), (72, (.iinc 3 1, 3)), (75, (.goto (-66), 3)), (78, (.return_, 1))]]
set_option maxRecDepth 100000 in
def pmc_151 : pm_T (Instr × Nat) := [[(0, (.iload_n 1, 1)), (1, (.sipush (-9999), 3)), (4, (.sipush 9999, 3)), (7, (.invokestatic 143, 3)), (10, (.ifCond .eq 24, 3)), (13, (.iload_n 2, 1)), (14, (.iconst 1, 1)), (15, (.sipush 999, 3))], [(18, (.invokestatic 143, 3)), (21, (.ifCond .eq 13, 3)), (24, (.aload_n 0, 1)), (25, (.getfield 125, 3)), (28, (.invokevirtual 354, 3)), (31, (.ifCond .eq 5, 3))], [(34, (.iconst (-1), 1)), (35, (.ireturn, 1)), (36, (.aload_n 0, 1)), (37, (.getfield 125, 3)), (40, (.iload_n 1, 1)), (41, (.iload_n 2, 1)), (42, (.iload_n 3, 1)), (43, (.invokevirtual 357, 3)), (46, (.ireturn, 1))]]
set_option maxRecDepth 100000 in
def pmc_152 : pm_T (Instr × Nat) := [[(0, (.iload_n 1, 1)), (1, (.iconst 1, 1)), (2, (.sipush 999, 3)), (5, (.invokestatic 143, 3)), (8, (.ifCond .eq 14, 3)), (11, (.aload_n 0, 1)), (12, (.getfield 125, 3)), (15, (.iconst 1, 1))], [(16, (.invokevirtual 360, 3)), (19, (.ifCond .ne 5, 3)), (22, (.iconst (-1), 1)), (23, (.ireturn, 1)), (24, (.aload_n 0, 1)), (25, (.getfield 125, 3)), (28, (.iconst 1, 1)), (29, (.invokevirtual 364, 3))], [(32, (.invokestatic 343, 3)), (35, (.istore_n 2, 1)), (36, (.iload_n 2, 1)), (37, (.iload_n 1, 1)), (38, (.iadd, 1)), (39, (.iconst 1, 1)), (40, (.isub, 1)), (41, (.iload_n 1, 1)), (42, (.idiv, 1)), (43, (.ireturn, 1))]]
set_option maxRecDepth 100000 in
def pmc_153 : pm_T (Instr × Nat) := [[(0, (.iload_n 1, 1)), (1, (.invokestatic 311, 3)), (4, (.ifCond .ne 12, 3)), (7, (.aload_n 0, 1)), (8, (.getfield 64, 3)), (11, (.invokevirtual 314, 3)), (14, (.iconst (-1), 1)), (15, (.ireturn, 1))], [(16, (.aload_n 0, 1)), (17, (.aload_n 0, 1)), (18, (.getfield 91, 3)), (21, (.aload_n 0, 1)), (22, (.getfield 107, 3)), (25, (.iload_n 1, 1)), (26, (.aaload, 1)), (27, (.invokevirtual 317, 3)), (30, (.ireturn, 1))]]
set_option maxRecDepth 100000 in
def pmc_154 : pm_T (Instr × Nat) := [[(0, (.iload_n 1, 1)), (1, (.invokestatic 311, 3)), (4, (.ifCond .eq 11, 3)), (7, (.aload_n 0, 1)), (8, (.iload_n 2, 1)), (9, (.invokevirtual 151, 3)), (12, (.ifCond .ne 5, 3)), (15, (.iconst (-1), 1))], [(16, (.ireturn, 1)), (17, (.aload_n 0, 1)), (18, (.getfield 107, 3)), (21, (.iload_n 1, 1)), (22, (.aaload, 1)), (23, (.astore_n 3, 1)), (24, (.aload_n 0, 1)), (25, (.aload_n 3, 1)), (26, (.iload_n 2, 1)), (27, (.aload_n 0, 1)), (28, (.aload_n 3, 1)), (29, (.invokevirtual 367, 3))], [(32, (.invokevirtual 371, 3)), (35, (.ifCond .eq 7, 3)), (38, (.iconst 1, 1)), (39, (.goto 4, 3)), (42, (.iconst 0, 1)), (43, (.ireturn, 1))]]
set_option maxRecDepth 100000 in
def pmc_155 : pm_T (Instr × Nat) := [[(0, (.aload_n 1, 1)), (1, (.iconst 3, 1)), (2, (.aload_n 0, 1)), (3, (.getfield 40, 3)), (6, (.invokevirtual 386, 3)), (9, (.ireturn, 1))]]
set_option maxRecDepth 100000 in
def pmc_156 : pm_T (Instr × Nat) := [[(0, (.aload_n 1, 1)), (1, (.iconst 0, 1)), (2, (.invokevirtual 395, 3)), (5, (.ifCond .ne 5, 3)), (8, (.iconst 1, 1)), (9, (.ireturn, 1)), (10, (.aload_n 0, 1)), (11, (.aload_n 1, 1)), (12, (.invokevirtual 389, 3)), (15, (.istore 4, 2))], [(17, (.aload_n 0, 1)), (18, (.getfield 110, 3)), (21, (.iconst 0, 1)), (22, (.aload_n 0, 1)), (23, (.getfield 10, 3)), (26, (.iload_n 2, 1)), (27, (.invokevirtual 228, 3)), (30, (.iastore, 1)), (31, (.aload_n 0, 1))], [(32, (.getfield 110, 3)), (35, (.iconst 1, 1)), (36, (.aload_n 0, 1)), (37, (.getfield 10, 3)), (40, (.iload_n 2, 1)), (41, (.invokevirtual 288, 3)), (44, (.iastore, 1)), (45, (.aload_n 0, 1)), (46, (.getfield 110, 3))], [(49, (.iconst 2, 1)), (50, (.aload_n 0, 1)), (51, (.getfield 10, 3)), (54, (.iload_n 2, 1)), (55, (.invokevirtual 255, 3)), (58, (.iastore, 1)), (59, (.aload_n 0, 1)), (60, (.getfield 110, 3)), (63, (.iconst 3, 1))], [(64, (.aload_n 0, 1)), (65, (.getfield 10, 3)), (68, (.iload_n 2, 1)), (69, (.invokevirtual 265, 3)), (72, (.ifCond .eq 7, 3)), (75, (.iconst 1, 1)), (76, (.goto 4, 3)), (79, (.iconst 0, 1))], [(80, (.iastore, 1)), (81, (.aload_n 0, 1)), (82, (.getfield 110, 3)), (85, (.iconst 4, 1)), (86, (.aload_n 0, 1)), (87, (.getfield 26, 3)), (90, (.iload_n 2, 1)), (91, (.invokevirtual 398, 3)), (94, (.iastore, 1)), (95, (.aload_n 0, 1))], [(96, (.getfield 110, 3)), (99, (.iconst 5, 1)), (100, (.aload_n 0, 1)), (101, (.getfield 26, 3)), (104, (.iload_n 2, 1)), (105, (.invokevirtual 401, 3)), (108, (.iastore, 1)), (109, (.aload_n 0, 1)), (110, (.getfield 110, 3))], [(113, (.bipush 6, 2)), (115, (.aload_n 0, 1)), (116, (.iload_n 2, 1)), (117, (.aload_n 0, 1)), (118, (.aload_n 1, 1)), (119, (.invokevirtual 392, 3)), (122, (.invokevirtual 285, 3)), (125, (.ifCond .eq 7, 3))], [(128, (.iconst 1, 1)), (129, (.goto 4, 3)), (132, (.iconst 0, 1)), (133, (.iastore, 1)), (134, (.aload_n 0, 1)), (135, (.getfield 110, 3)), (138, (.bipush 7, 2)), (140, (.aload_n 0, 1)), (141, (.getfield 26, 3))], [(144, (.iload_n 2, 1)), (145, (.iload 4, 2)), (147, (.iload_n 3, 1)), (148, (.invokevirtual 175, 3)), (151, (.iastore, 1)), (152, (.aload_n 0, 1)), (153, (.getfield 110, 3)), (156, (.bipush 8, 2)), (158, (.iload_n 2, 1)), (159, (.iastore, 1))], [(160, (.aload_n 1, 1)), (161, (.iconst 0, 1)), (162, (.aload_n 0, 1)), (163, (.getfield 110, 3)), (166, (.invokevirtual 404, 3)), (169, (.ifCond .eq 7, 3)), (172, (.iconst 1, 1)), (173, (.goto 4, 3))], [(176, (.iconst 0, 1)), (177, (.ireturn, 1))]]
set_option maxRecDepth 100000 in
def pmc_157 : pm_T (Instr × Nat) := [[(0, (.aload_n 1, 1)), (1, (.iconst 1, 1)), (2, (.iconst 0, 1)), (3, (.invokevirtual 386, 3)), (6, (.ireturn, 1))]]
set_option maxRecDepth 100000 in
def pmc_158 : pm_T (Instr × Nat) := [[(0, (.aload_n 1, 1)), (1, (.iconst 2, 1)), (2, (.bipush 11, 2)), (4, (.invokevirtual 386, 3)), (7, (.ireturn, 1))]]
set_option maxRecDepth 100000 in
def pmc_159 : pm_T (Instr × Nat) := [[(0, (.aload_n 0, 1)), (1, (.getfield 10, 3)), (4, (.iload_n 1, 1)), (5, (.invokevirtual 288, 3)), (8, (.aload_n 0, 1)), (9, (.getfield 19, 3)), (12, (.aload_n 0, 1)), (13, (.getfield 10, 3))], [(16, (.iload_n 1, 1)), (17, (.invokevirtual 228, 3)), (20, (.iload_n 2, 1)), (21, (.invokevirtual 291, 3)), (24, (.if_icmp .ge 7, 3)), (27, (.iconst 1, 1)), (28, (.goto 4, 3)), (31, (.iconst 0, 1))], [(32, (.ireturn, 1))]]
set_option maxRecDepth 100000 in
def pmc_160 : pm_T (Instr × Nat) := [[(0, (.aload_n 0, 1)), (1, (.iload_n 1, 1)), (2, (.invokevirtual 151, 3)), (5, (.ifCond .eq 33, 3)), (8, (.iload_n 2, 1)), (9, (.invokestatic 154, 3)), (12, (.ifCond .eq 26, 3)), (15, (.iload_n 3, 1))], [(16, (.iconst 0, 1)), (17, (.sipush 999, 3)), (20, (.invokestatic 143, 3)), (23, (.ifCond .eq 15, 3)), (26, (.iload 4, 2)), (28, (.iconst 0, 1)), (29, (.ldc_w 408, 3))], [(32, (.invokestatic 143, 3)), (35, (.ifCond .ne 5, 3)), (38, (.iconst 0, 1)), (39, (.ireturn, 1)), (40, (.aload_n 0, 1)), (41, (.getfield 33, 3)), (44, (.iload_n 1, 1)), (45, (.bipush 12, 2)), (47, (.imul, 1))], [(48, (.iload_n 2, 1)), (49, (.iadd, 1)), (50, (.iload_n 3, 1)), (51, (.iastore, 1)), (52, (.aload_n 0, 1)), (53, (.getfield 37, 3)), (56, (.iload_n 1, 1)), (57, (.bipush 12, 2)), (59, (.imul, 1)), (60, (.iload_n 2, 1)), (61, (.iadd, 1)), (62, (.iload 4, 2))], [(64, (.iastore, 1)), (65, (.iconst 1, 1)), (66, (.ireturn, 1))]]
set_option maxRecDepth 100000 in
def pmc_161 : pm_T (Instr × Nat) := [[(0, (.iload_n 1, 1)), (1, (.iload_n 2, 1)), (2, (.invokestatic 179, 3)), (5, (.ifCond .eq 21, 3)), (8, (.iload_n 3, 1)), (9, (.iconst 1, 1)), (10, (.bipush 9, 2)), (12, (.invokestatic 143, 3)), (15, (.ifCond .eq 11, 3))], [(18, (.iload 4, 2)), (20, (.invokestatic 201, 3)), (23, (.ifCond .ne 7, 3)), (26, (.ldc2_w 276, 3)), (29, (.lreturn, 1)), (30, (.iload_n 3, 1)), (31, (.aload_n 0, 1))], [(32, (.iload_n 1, 1)), (33, (.iload_n 2, 1)), (34, (.invokevirtual 431, 3)), (37, (.if_icmp .le 7, 3)), (40, (.ldc2_w 276, 3)), (43, (.lreturn, 1)), (44, (.aload_n 0, 1)), (45, (.getfield 47, 3))], [(48, (.iload_n 3, 1)), (49, (.aload_n 0, 1)), (50, (.getfield 54, 3)), (53, (.invokevirtual 434, 3)), (56, (.aload_n 0, 1)), (57, (.getfield 54, 3)), (60, (.iload 4, 2)), (62, (.invokevirtual 214, 3))], [(65, (.lreturn, 1))]]
set_option maxRecDepth 100000 in
def pmc_162 : pm_T (Instr × Nat) := [[(0, (.aload_n 0, 1)), (1, (.iload_n 1, 1)), (2, (.iload_n 2, 1)), (3, (.invokevirtual 204, 3)), (6, (.aload_n 0, 1)), (7, (.getfield 47, 3)), (10, (.iconst 0, 1)), (11, (.invokevirtual 268, 3)), (14, (.bipush 9, 2))], [(16, (.if_icmp .gt 16, 3)), (19, (.aload_n 0, 1)), (20, (.getfield 47, 3)), (23, (.iconst 1, 1)), (24, (.invokevirtual 268, 3)), (27, (.bipush 9, 2)), (29, (.if_icmp .le 5, 3))], [(32, (.iconst 0, 1)), (33, (.ireturn, 1)), (34, (.aload_n 0, 1)), (35, (.getfield 47, 3)), (38, (.iconst 0, 1)), (39, (.invokevirtual 268, 3)), (42, (.aload_n 0, 1)), (43, (.getfield 47, 3)), (46, (.iconst 1, 1)), (47, (.invokevirtual 268, 3))], [(50, (.invokestatic 444, 3)), (53, (.ireturn, 1))]]
set_option maxRecDepth 100000 in
def pmc_163 : pm_T (Instr × Nat) := [[(0, (.iload_n 1, 1)), (1, (.iload_n 2, 1)), (2, (.invokestatic 179, 3)), (5, (.ifCond .eq 13, 3)), (8, (.iload_n 3, 1)), (9, (.iconst 1, 1)), (10, (.bipush 100, 2)), (12, (.invokestatic 143, 3)), (15, (.ifCond .ne 5, 3))], [(18, (.iconst (-1), 1)), (19, (.ireturn, 1)), (20, (.aload_n 0, 1)), (21, (.iload_n 1, 1)), (22, (.iload_n 2, 1)), (23, (.invokevirtual 431, 3)), (26, (.istore 4, 2)), (28, (.iconst 1, 1)), (29, (.istore 5, 2)), (31, (.iload 5, 2))], [(33, (.iload 4, 2)), (35, (.if_icmp .gt 40, 3)), (38, (.aload_n 0, 1)), (39, (.getfield 47, 3)), (42, (.iload 5, 2)), (44, (.aload_n 0, 1)), (45, (.getfield 54, 3))], [(48, (.invokevirtual 434, 3)), (51, (.aload_n 0, 1)), (52, (.getfield 54, 3)), (55, (.iload_n 3, 1)), (56, (.i2l, 1)), (57, (.ldc2_w 438, 3)), (60, (.invokevirtual 440, 3)), (63, (.ifCond .eq 6, 3))], [(66, (.iload 5, 2)), (68, (.ireturn, 1)), (69, (.iinc 5 1, 3)), (72, (.goto (-41), 3)), (75, (.iconst (-1), 1)), (76, (.ireturn, 1))]]
set_option maxRecDepth 100000 in
def pmc_164 : pm_T (Instr × Nat) := [[(0, (.iload_n 1, 1)), (1, (.invokestatic 154, 3)), (4, (.ifCond .eq 12, 3)), (7, (.iload_n 2, 1)), (8, (.iconst 0, 1)), (9, (.iconst 2, 1)), (10, (.invokestatic 143, 3)), (13, (.ifCond .ne 5, 3))], [(16, (.iconst (-1), 1)), (17, (.ireturn, 1)), (18, (.iconst 0, 1)), (19, (.istore_n 3, 1)), (20, (.iconst 0, 1)), (21, (.istore 4, 2)), (23, (.iconst 0, 1)), (24, (.istore 5, 2)), (26, (.iconst 0, 1)), (27, (.istore 6, 2)), (29, (.iload 6, 2)), (31, (.bipush 24, 2))], [(33, (.if_icmp .ge 108, 3)), (36, (.aload_n 0, 1)), (37, (.getfield 10, 3)), (40, (.iload 6, 2)), (42, (.invokevirtual 225, 3)), (45, (.ifCond .eq 90, 3))], [(48, (.aload_n 0, 1)), (49, (.getfield 26, 3)), (52, (.iload 6, 2)), (54, (.iload_n 1, 1)), (55, (.invokevirtual 171, 3)), (58, (.ifCond .ne 77, 3)), (61, (.aload_n 0, 1)), (62, (.getfield 30, 3))], [(65, (.iload 6, 2)), (67, (.iload_n 1, 1)), (68, (.invokevirtual 171, 3)), (71, (.ifCond .ne 64, 3)), (74, (.aload_n 0, 1)), (75, (.getfield 26, 3)), (78, (.iload 6, 2))], [(80, (.iload_n 1, 1)), (81, (.aload_n 0, 1)), (82, (.getfield 40, 3)), (85, (.invokevirtual 175, 3)), (88, (.aload_n 0, 1)), (89, (.getfield 30, 3)), (92, (.iload 6, 2)), (94, (.iload_n 1, 1)), (95, (.aload_n 0, 1))], [(96, (.getfield 40, 3)), (99, (.invokevirtual 175, 3)), (102, (.isub, 1)), (103, (.invokestatic 343, 3)), (106, (.istore 7, 2)), (108, (.iinc 3 1, 3)), (111, (.iload 4, 2))], [(113, (.iload 7, 2)), (115, (.ifCond .eq 7, 3)), (118, (.iconst 1, 1)), (119, (.goto 4, 3)), (122, (.iconst 0, 1)), (123, (.iadd, 1)), (124, (.istore 4, 2)), (126, (.iload 5, 2))], [(128, (.iload 7, 2)), (130, (.invokestatic 348, 3)), (133, (.istore 5, 2)), (135, (.iinc 6 1, 3)), (138, (.goto (-109), 3)), (141, (.iload_n 2, 1)), (142, (.ifCond .ne 5, 3))], [(145, (.iload_n 3, 1)), (146, (.ireturn, 1)), (147, (.iload_n 2, 1)), (148, (.iconst 1, 1)), (149, (.if_icmp .ne 8, 3)), (152, (.iload 4, 2)), (154, (.goto 5, 3)), (157, (.iload 5, 2)), (159, (.ireturn, 1))]]
set_option maxRecDepth 100000 in
def pmc_165 : pm_T (Instr × Nat) := [[(0, (.iconst (-1), 1)), (1, (.istore_n 2, 1)), (2, (.iconst 0, 1)), (3, (.istore_n 3, 1)), (4, (.iconst 1, 1)), (5, (.istore 4, 2)), (7, (.iload 4, 2)), (9, (.bipush 12, 2)), (11, (.if_icmp .ge 29, 3)), (14, (.aload_n 0, 1)), (15, (.iload 4, 2))], [(17, (.invokevirtual 451, 3)), (20, (.istore 5, 2)), (22, (.iload 5, 2)), (24, (.iload_n 3, 1)), (25, (.if_icmp .le 9, 3)), (28, (.iload 5, 2)), (30, (.istore_n 3, 1)), (31, (.iload 4, 2))], [(33, (.istore_n 2, 1)), (34, (.iinc 4 1, 3)), (37, (.goto (-30), 3)), (40, (.iload_n 2, 1)), (41, (.iconst (-1), 1)), (42, (.if_icmp .eq 12, 3)), (45, (.iload_n 1, 1)), (46, (.iconst 0, 1)), (47, (.iconst 1, 1))], [(48, (.invokestatic 143, 3)), (51, (.ifCond .ne 5, 3)), (54, (.iconst (-1), 1)), (55, (.ireturn, 1)), (56, (.iload_n 1, 1)), (57, (.ifCond .ne 7, 3)), (60, (.iload_n 2, 1)), (61, (.goto 4, 3))], [(64, (.iload_n 3, 1)), (65, (.ireturn, 1))]]
set_option maxRecDepth 100000 in
def pmc_166 : pm_T (Instr × Nat) := [[(0, (.aload_n 0, 1)), (1, (.getfield 19, 3)), (4, (.iconst 0, 1)), (5, (.iload_n 1, 1)), (6, (.invokevirtual 454, 3)), (9, (.aload_n 0, 1)), (10, (.getfield 19, 3)), (13, (.iconst 1, 1)), (14, (.iload_n 1, 1)), (15, (.invokevirtual 454, 3))], [(18, (.isub, 1)), (19, (.istore_n 2, 1)), (20, (.iload_n 2, 1)), (21, (.ifCond .ne 5, 3)), (24, (.iconst 0, 1)), (25, (.ireturn, 1)), (26, (.iload_n 2, 1)), (27, (.ifCond .le 7, 3)), (30, (.iconst 0, 1)), (31, (.goto 4, 3))], [(34, (.iconst 1, 1)), (35, (.istore_n 3, 1)), (36, (.iconst 0, 1)), (37, (.istore 4, 2)), (39, (.iconst 0, 1)), (40, (.istore 5, 2)), (42, (.iconst 0, 1)), (43, (.istore 6, 2)), (45, (.iload 6, 2)), (47, (.bipush 24, 2))], [(49, (.if_icmp .ge 69, 3)), (52, (.aload_n 0, 1)), (53, (.getfield 10, 3)), (56, (.iload 6, 2)), (58, (.invokevirtual 225, 3)), (61, (.ifCond .eq 51, 3))], [(64, (.aload_n 0, 1)), (65, (.getfield 26, 3)), (68, (.iload 6, 2)), (70, (.iload_n 1, 1)), (71, (.iconst 1, 1)), (72, (.isub, 1)), (73, (.iload_n 1, 1)), (74, (.invokevirtual 192, 3)), (77, (.ifCond .eq 35, 3))], [(80, (.aload_n 0, 1)), (81, (.getfield 10, 3)), (84, (.iload 6, 2)), (86, (.invokevirtual 228, 3)), (89, (.iload_n 3, 1)), (90, (.if_icmp .eq 9, 3)), (93, (.iinc 5 1, 3))], [(96, (.goto 16, 3)), (99, (.aload_n 0, 1)), (100, (.iload 6, 2)), (102, (.iload_n 1, 1)), (103, (.invokevirtual 285, 3)), (106, (.ifCond .eq 6, 3)), (109, (.iinc 4 1, 3))], [(112, (.iinc 6 1, 3)), (115, (.goto (-70), 3)), (118, (.iload 4, 2)), (120, (.iload 5, 2)), (122, (.imul, 1)), (123, (.ireturn, 1))]]
set_option maxRecDepth 100000 in
def pmc_167 : pm_T (Instr × Nat) := [[(0, (.iload_n 1, 1)), (1, (.iconst 0, 1)), (2, (.iconst 3, 1)), (3, (.invokestatic 143, 3)), (6, (.ifCond .ne 5, 3)), (9, (.iconst 0, 1)), (10, (.ireturn, 1)), (11, (.iload_n 2, 1)), (12, (.ifCond .ne 29, 3)), (15, (.aload_n 0, 1))], [(16, (.getfield 131, 3)), (19, (.iload_n 1, 1)), (20, (.aaload, 1)), (21, (.aload_n 0, 1)), (22, (.getfield 26, 3)), (25, (.aload_n 0, 1)), (26, (.getfield 30, 3)), (29, (.aload_n 0, 1)), (30, (.getfield 125, 3))], [(33, (.invokevirtual 457, 3)), (36, (.invokevirtual 458, 3)), (39, (.iconst 1, 1)), (40, (.ireturn, 1)), (41, (.aload_n 0, 1)), (42, (.getfield 131, 3)), (45, (.iload_n 1, 1)), (46, (.aaload, 1)), (47, (.invokevirtual 462, 3))], [(50, (.ifCond .eq 22, 3)), (53, (.aload_n 0, 1)), (54, (.getfield 125, 3)), (57, (.invokevirtual 457, 3)), (60, (.aload_n 0, 1)), (61, (.getfield 131, 3))], [(64, (.iload_n 1, 1)), (65, (.aaload, 1)), (66, (.invokevirtual 465, 3)), (69, (.if_icmp .ge 5, 3)), (72, (.iconst 0, 1)), (73, (.ireturn, 1)), (74, (.aload_n 0, 1)), (75, (.getfield 131, 3)), (78, (.iload_n 1, 1)), (79, (.aaload, 1))], [(80, (.aload_n 0, 1)), (81, (.getfield 26, 3)), (84, (.aload_n 0, 1)), (85, (.getfield 30, 3)), (88, (.invokevirtual 467, 3)), (91, (.aload_n 0, 1)), (92, (.getfield 125, 3)), (95, (.aload_n 0, 1))], [(96, (.getfield 131, 3)), (99, (.iload_n 1, 1)), (100, (.aaload, 1)), (101, (.invokevirtual 465, 3)), (104, (.invokevirtual 471, 3)), (107, (.iconst 1, 1)), (108, (.ireturn, 1))]]
set_option maxRecDepth 100000 in
def pmc_168 : pm_T (Instr × Nat) := [[(0, (.iload_n 1, 1)), (1, (.tableswitch 118 0 7 #[47, 65, 73, 81, 89, 97, 102, 110], 47))], [], [], [(48, (.aload_n 0, 1)), (49, (.getfield 10, 3)), (52, (.iconst 0, 1)), (53, (.invokevirtual 252, 3)), (56, (.aload_n 0, 1)), (57, (.getfield 10, 3)), (60, (.iconst 1, 1)), (61, (.invokevirtual 252, 3))], [(64, (.iadd, 1)), (65, (.ireturn, 1)), (66, (.aload_n 0, 1)), (67, (.getfield 26, 3)), (70, (.invokevirtual 474, 3)), (73, (.ireturn, 1)), (74, (.aload_n 0, 1)), (75, (.getfield 30, 3)), (78, (.invokevirtual 474, 3))], [(81, (.ireturn, 1)), (82, (.aload_n 0, 1)), (83, (.getfield 125, 3)), (86, (.invokevirtual 457, 3)), (89, (.ireturn, 1)), (90, (.aload_n 0, 1)), (91, (.getfield 125, 3)), (94, (.invokevirtual 477, 3))], [(97, (.ireturn, 1)), (98, (.aload_n 0, 1)), (99, (.getfield 40, 3)), (102, (.ireturn, 1)), (103, (.aload_n 0, 1)), (104, (.getfield 64, 3)), (107, (.invokevirtual 308, 3)), (110, (.ireturn, 1)), (111, (.aload_n 0, 1))], [(112, (.getfield 10, 3)), (115, (.invokevirtual 480, 3)), (118, (.ireturn, 1)), (119, (.iconst (-1), 1)), (120, (.ireturn, 1))]]
set_option maxRecDepth 100000 in
def pmc_169 : pm_T (Instr × Nat) := [[(0, (.iload_n 1, 1)), (1, (.invokestatic 140, 3)), (4, (.ifCond .eq 21, 3)), (7, (.iload_n 2, 1)), (8, (.iload_n 3, 1)), (9, (.invokestatic 179, 3)), (12, (.ifCond .eq 13, 3)), (15, (.iload 4, 2))], [(17, (.iconst 0, 1)), (18, (.iconst 4, 1)), (19, (.invokestatic 143, 3)), (22, (.ifCond .ne 11, 3)), (25, (.new 182, 3)), (28, (.dup, 1)), (29, (.invokespecial 184, 3))], [(32, (.athrow, 1)), (33, (.iconst 0, 1)), (34, (.istore 5, 2)), (36, (.iconst 0, 1)), (37, (.istore 6, 2)), (39, (.iload 6, 2)), (41, (.bipush 24, 2)), (43, (.if_icmp .ge 37, 3)), (46, (.aload_n 0, 1)), (47, (.getfield 10, 3))], [(50, (.iload 6, 2)), (52, (.iload_n 1, 1)), (53, (.invokevirtual 185, 3)), (56, (.ifCond .eq 18, 3)), (59, (.iload 5, 2)), (61, (.aload_n 0, 1)), (62, (.iload 6, 2))], [(64, (.iload_n 2, 1)), (65, (.iload_n 3, 1)), (66, (.iload 4, 2)), (68, (.invokevirtual 188, 3)), (71, (.iadd, 1)), (72, (.istore 5, 2)), (74, (.iinc 6 1, 3)), (77, (.goto (-38), 3))], [(80, (.iload 5, 2)), (82, (.ireturn, 1))]]
set_option maxRecDepth 100000 in
def pmc_170 : pm_T (Instr × Nat) := [[(0, (.aload_n 0, 1)), (1, (.getfield 26, 3)), (4, (.iload_n 1, 1)), (5, (.iload_n 2, 1)), (6, (.iload_n 3, 1)), (7, (.invokevirtual 192, 3)), (10, (.istore 5, 2)), (12, (.aload_n 0, 1)), (13, (.getfield 26, 3))], [(16, (.iload_n 1, 1)), (17, (.iload_n 2, 1)), (18, (.invokevirtual 195, 3)), (21, (.istore 6, 2)), (23, (.aload_n 0, 1)), (24, (.getfield 26, 3)), (27, (.iload_n 1, 1)), (28, (.iload_n 3, 1)), (29, (.invokevirtual 195, 3))], [(32, (.istore 7, 2)), (34, (.iload 4, 2)), (36, (.tableswitch 86 0 3 #[32, 43, 54, 70], 32))], [], [(68, (.iload 5, 2)), (70, (.ifCond .eq 7, 3)), (73, (.iconst 1, 1)), (74, (.goto 4, 3)), (77, (.iconst 0, 1)), (78, (.ireturn, 1)), (79, (.iload 5, 2))], [(81, (.ifCond .eq 7, 3)), (84, (.iconst 0, 1)), (85, (.goto 4, 3)), (88, (.iconst 1, 1)), (89, (.ireturn, 1)), (90, (.iload 7, 2)), (92, (.ifCond .eq 12, 3)), (95, (.iload 6, 2))], [(97, (.ifCond .ne 7, 3)), (100, (.iconst 1, 1)), (101, (.goto 4, 3)), (104, (.iconst 0, 1)), (105, (.ireturn, 1)), (106, (.iload 6, 2)), (108, (.ifCond .eq 12, 3)), (111, (.iload 7, 2))], [(113, (.ifCond .ne 7, 3)), (116, (.iconst 1, 1)), (117, (.goto 4, 3)), (120, (.iconst 0, 1)), (121, (.ireturn, 1)), (122, (.iload 5, 2)), (124, (.ifCond .eq 20, 3)), (127, (.aload_n 0, 1))], [(128, (.getfield 26, 3)), (131, (.iload_n 1, 1)), (132, (.iload_n 2, 1)), (133, (.iload_n 3, 1)), (134, (.aload_n 0, 1)), (135, (.getfield 40, 3)), (138, (.invokevirtual 198, 3)), (141, (.goto 4, 3))], [(144, (.iconst 0, 1)), (145, (.ireturn, 1))]]
set_option maxRecDepth 100000 in
def pmc_171 : pm_T (Instr × Nat) := [[(0, (.iload_n 3, 1)), (1, (.iconst (-1), 1)), (2, (.if_icmp .ne 7, 3)), (5, (.iconst 1, 1)), (6, (.goto 4, 3)), (9, (.iconst 0, 1)), (10, (.istore 5, 2)), (12, (.iload_n 1, 1)), (13, (.iload_n 2, 1)), (14, (.invokestatic 179, 3))], [(17, (.ifCond .eq 24, 3)), (20, (.iload 4, 2)), (22, (.invokestatic 201, 3)), (25, (.ifCond .eq 16, 3)), (28, (.iload 5, 2)), (30, (.ifCond .ne 19, 3))], [(33, (.aload_n 0, 1)), (34, (.iload_n 3, 1)), (35, (.invokevirtual 151, 3)), (38, (.ifCond .ne 11, 3)), (41, (.new 182, 3)), (44, (.dup, 1)), (45, (.invokespecial 184, 3))], [(48, (.athrow, 1)), (49, (.aload_n 0, 1)), (50, (.iload_n 1, 1)), (51, (.iload_n 2, 1)), (52, (.invokevirtual 204, 3)), (55, (.iload 5, 2)), (57, (.ifCond .ne 11, 3)), (60, (.aload_n 0, 1)), (61, (.getfield 47, 3))], [(64, (.iload_n 3, 1)), (65, (.invokevirtual 207, 3)), (68, (.aload_n 0, 1)), (69, (.getfield 47, 3)), (72, (.aload_n 0, 1)), (73, (.getfield 54, 3)), (76, (.invokevirtual 210, 3)), (79, (.ifCond .ne 11, 3))], [(82, (.new 182, 3)), (85, (.dup, 1)), (86, (.invokespecial 184, 3)), (89, (.athrow, 1)), (90, (.aload_n 0, 1)), (91, (.getfield 54, 3)), (94, (.iload 4, 2))], [(96, (.invokevirtual 214, 3)), (99, (.lreturn, 1))]]
set_option maxRecDepth 100000 in
def pmc_172 : pm_T (Instr × Nat) := [[(0, (.iload_n 1, 1)), (1, (.iload_n 2, 1)), (2, (.invokestatic 179, 3)), (5, (.ifCond .eq 32, 3)), (8, (.aload_n 0, 1)), (9, (.iload_n 3, 1)), (10, (.invokevirtual 151, 3)), (13, (.ifCond .eq 24, 3))], [(16, (.iload 4, 2)), (18, (.invokestatic 201, 3)), (21, (.ifCond .eq 16, 3)), (24, (.aload_n 0, 1)), (25, (.getfield 26, 3)), (28, (.iload_n 3, 1)), (29, (.iload_n 1, 1)), (30, (.iload_n 2, 1)), (31, (.invokevirtual 192, 3))], [(34, (.ifCond .ne 11, 3)), (37, (.new 182, 3)), (40, (.dup, 1)), (41, (.invokespecial 184, 3)), (44, (.athrow, 1)), (45, (.aload_n 0, 1)), (46, (.iload_n 1, 1)), (47, (.iload_n 2, 1))], [(48, (.invokevirtual 204, 3)), (51, (.aload_n 0, 1)), (52, (.getfield 47, 3)), (55, (.aload_n 0, 1)), (56, (.getfield 54, 3)), (59, (.invokevirtual 210, 3)), (62, (.istore 5, 2))], [(64, (.aload_n 0, 1)), (65, (.getfield 47, 3)), (68, (.iload_n 3, 1)), (69, (.invokevirtual 207, 3)), (72, (.iload 5, 2)), (74, (.ifCond .eq 17, 3)), (77, (.aload_n 0, 1)), (78, (.getfield 47, 3))], [(81, (.aload_n 0, 1)), (82, (.getfield 58, 3)), (85, (.invokevirtual 210, 3)), (88, (.ifCond .ne 11, 3)), (91, (.new 182, 3)), (94, (.dup, 1)), (95, (.invokespecial 184, 3))], [(98, (.athrow, 1)), (99, (.aload_n 0, 1)), (100, (.getfield 54, 3)), (103, (.aload_n 0, 1)), (104, (.getfield 58, 3)), (107, (.invokevirtual 218, 3)), (110, (.aload_n 0, 1)), (111, (.getfield 54, 3))], [(114, (.iload 4, 2)), (116, (.invokevirtual 214, 3)), (119, (.lreturn, 1))]]
set_option maxRecDepth 100000 in
def pmc_173 : pm_T (Instr × Nat) := [[(0, (.iload_n 1, 1)), (1, (.iload_n 2, 1)), (2, (.invokestatic 179, 3)), (5, (.ifCond .eq 10, 3)), (8, (.iload_n 3, 1)), (9, (.invokestatic 235, 3)), (12, (.ifCond .ne 11, 3)), (15, (.new 182, 3))], [(18, (.dup, 1)), (19, (.invokespecial 184, 3)), (22, (.athrow, 1)), (23, (.aload_n 0, 1)), (24, (.iload_n 1, 1)), (25, (.iload_n 2, 1)), (26, (.iload_n 3, 1)), (27, (.invokestatic 238, 3)), (30, (.invokevirtual 241, 3))], [(33, (.aload_n 0, 1)), (34, (.getfield 47, 3)), (37, (.aload_n 0, 1)), (38, (.getfield 54, 3)), (41, (.invokevirtual 210, 3)), (44, (.ifCond .ne 11, 3)), (47, (.new 182, 3))], [(50, (.dup, 1)), (51, (.invokespecial 184, 3)), (54, (.athrow, 1)), (55, (.aload_n 0, 1)), (56, (.getfield 54, 3)), (59, (.iload_n 3, 1)), (60, (.invokestatic 245, 3)), (63, (.invokevirtual 214, 3))], [(66, (.lreturn, 1))]]
set_option maxRecDepth 100000 in
def pmc_174 : pm_T (Instr × Nat) := [[(0, (.iload_n 0, 1)), (1, (.iconst 0, 1)), (2, (.iconst 3, 1)), (3, (.invokestatic 143, 3)), (6, (.ireturn, 1))]]
set_option maxRecDepth 100000 in
def pmc_175 : pm_T (Instr × Nat) := [[(0, (.iload_n 0, 1)), (1, (.iconst 2, 1)), (2, (.if_icmp .lt 7, 3)), (5, (.iconst 1, 1)), (6, (.goto 4, 3)), (9, (.iconst 0, 1)), (10, (.ireturn, 1))]]
set_option maxRecDepth 100000 in
def pmc_176 : pm_T (Instr × Nat) := [[(0, (.iload_n 0, 1)), (1, (.iconst 2, 1)), (2, (.irem, 1)), (3, (.ireturn, 1))]]
set_option maxRecDepth 100000 in
def pmc_177 : pm_T (Instr × Nat) := [[(0, (.iload_n 1, 1)), (1, (.iload_n 2, 1)), (2, (.invokestatic 179, 3)), (5, (.ifCond .eq 11, 3)), (8, (.iload 4, 2)), (10, (.invokestatic 201, 3)), (13, (.ifCond .ne 11, 3))], [(16, (.new 182, 3)), (19, (.dup, 1)), (20, (.invokespecial 184, 3)), (23, (.athrow, 1)), (24, (.aload_n 0, 1)), (25, (.getfield 47, 3)), (28, (.invokevirtual 222, 3)), (31, (.iconst 0, 1))], [(32, (.istore 5, 2)), (34, (.iload 5, 2)), (36, (.bipush 24, 2)), (38, (.if_icmp .ge 96, 3)), (41, (.aload_n 0, 1)), (42, (.getfield 10, 3)), (45, (.iload 5, 2)), (47, (.invokevirtual 225, 3))], [(50, (.ifCond .eq 23, 3)), (53, (.iload_n 3, 1)), (54, (.ifCond .eq 15, 3)), (57, (.aload_n 0, 1)), (58, (.getfield 10, 3)), (61, (.iload 5, 2)), (63, (.invokevirtual 265, 3))], [(66, (.ifCond .eq 7, 3)), (69, (.iconst 1, 1)), (70, (.goto 4, 3)), (73, (.iconst 0, 1)), (74, (.istore 6, 2)), (76, (.iload 6, 2)), (78, (.ifCond .eq 50, 3))], [(81, (.aload_n 0, 1)), (82, (.getfield 30, 3)), (85, (.iload 5, 2)), (87, (.iload_n 1, 1)), (88, (.iload_n 2, 1)), (89, (.invokevirtual 192, 3)), (92, (.ifCond .eq 36, 3)), (95, (.aload_n 0, 1))], [(96, (.getfield 47, 3)), (99, (.iload 5, 2)), (101, (.aload_n 0, 1)), (102, (.getfield 10, 3)), (105, (.iload 5, 2)), (107, (.invokevirtual 228, 3)), (110, (.aload_n 0, 1)), (111, (.getfield 30, 3))], [(114, (.iload 5, 2)), (116, (.iload_n 1, 1)), (117, (.iload_n 2, 1)), (118, (.aload_n 0, 1)), (119, (.getfield 40, 3)), (122, (.invokevirtual 198, 3)), (125, (.invokevirtual 232, 3))], [(128, (.iinc 5 1, 3)), (131, (.goto (-97), 3)), (134, (.aload_n 0, 1)), (135, (.getfield 47, 3)), (138, (.aload_n 0, 1)), (139, (.getfield 54, 3)), (142, (.invokevirtual 210, 3))], [(145, (.ifCond .ne 11, 3)), (148, (.new 182, 3)), (151, (.dup, 1)), (152, (.invokespecial 184, 3)), (155, (.athrow, 1)), (156, (.aload_n 0, 1)), (157, (.getfield 54, 3))], [(160, (.iload 4, 2)), (162, (.invokevirtual 214, 3)), (165, (.lreturn, 1))]]
set_option maxRecDepth 100000 in
def pmc_178 : pm_T (Instr × Nat) := [[(0, (.iload_n 1, 1)), (1, (.iload_n 2, 1)), (2, (.invokestatic 179, 3)), (5, (.ifCond .eq 21, 3)), (8, (.iload_n 3, 1)), (9, (.iconst 1, 1)), (10, (.bipush 12, 2)), (12, (.invokestatic 143, 3)), (15, (.ifCond .eq 11, 3))], [(18, (.iload 4, 2)), (20, (.invokestatic 235, 3)), (23, (.ifCond .ne 11, 3)), (26, (.new 182, 3)), (29, (.dup, 1)), (30, (.invokespecial 184, 3))], [(33, (.athrow, 1)), (34, (.aload_n 0, 1)), (35, (.iload_n 1, 1)), (36, (.iload_n 2, 1)), (37, (.invokevirtual 204, 3)), (40, (.aload_n 0, 1)), (41, (.getfield 47, 3)), (44, (.iconst 0, 1)), (45, (.invokevirtual 268, 3))], [(48, (.iload_n 3, 1)), (49, (.if_icmp .lt 15, 3)), (52, (.aload_n 0, 1)), (53, (.getfield 47, 3)), (56, (.iconst 1, 1)), (57, (.invokevirtual 268, 3)), (60, (.iload_n 3, 1)), (61, (.if_icmp .ge 11, 3))], [(64, (.new 182, 3)), (67, (.dup, 1)), (68, (.invokespecial 184, 3)), (71, (.athrow, 1)), (72, (.iload 4, 2)), (74, (.invokestatic 238, 3)), (77, (.istore 5, 2)), (79, (.aload_n 0, 1))], [(80, (.getfield 54, 3)), (83, (.aload_n 0, 1)), (84, (.getfield 47, 3)), (87, (.iconst 0, 1)), (88, (.iload_n 3, 1)), (89, (.iload 5, 2)), (91, (.invokevirtual 269, 3)), (94, (.aload_n 0, 1)), (95, (.getfield 47, 3))], [(98, (.iconst 1, 1)), (99, (.iload_n 3, 1)), (100, (.iload 5, 2)), (102, (.ifCond .ne 7, 3)), (105, (.iconst 1, 1)), (106, (.goto 4, 3)), (109, (.iconst 0, 1)), (110, (.invokevirtual 269, 3))], [(113, (.lsub, 1)), (114, (.iload_n 3, 1)), (115, (.i2l, 1)), (116, (.invokevirtual 273, 3)), (119, (.aload_n 0, 1)), (120, (.getfield 54, 3)), (123, (.iload 4, 2)), (125, (.invokestatic 245, 3))], [(128, (.invokevirtual 214, 3)), (131, (.lreturn, 1))]]
set_option maxRecDepth 100000 in
def pmc_179 : pm_T (Instr × Nat) := [[(0, (.iload_n 1, 1)), (1, (.iload_n 2, 1)), (2, (.invokestatic 179, 3)), (5, (.ifCond .eq 10, 3)), (8, (.iload_n 3, 1)), (9, (.invokestatic 201, 3)), (12, (.ifCond .ne 11, 3)), (15, (.new 182, 3))], [(18, (.dup, 1)), (19, (.invokespecial 184, 3)), (22, (.athrow, 1)), (23, (.aload_n 0, 1)), (24, (.getfield 47, 3)), (27, (.invokevirtual 222, 3)), (30, (.iconst 0, 1)), (31, (.istore 4, 2))], [(33, (.iload 4, 2)), (35, (.bipush 24, 2)), (37, (.if_icmp .ge 75, 3)), (40, (.aload_n 0, 1)), (41, (.getfield 10, 3)), (44, (.iload 4, 2)), (46, (.iconst 0, 1)), (47, (.invokevirtual 185, 3))], [(50, (.ifCond .eq 56, 3)), (53, (.aload_n 0, 1)), (54, (.getfield 26, 3)), (57, (.iload 4, 2)), (59, (.iload_n 1, 1)), (60, (.iload_n 2, 1)), (61, (.invokevirtual 192, 3))], [(64, (.ifCond .eq 42, 3)), (67, (.aload_n 0, 1)), (68, (.getfield 47, 3)), (71, (.iload 4, 2)), (73, (.aload_n 0, 1)), (74, (.iload 4, 2)), (76, (.iload_n 2, 1)), (77, (.invokevirtual 285, 3))], [(80, (.ifCond .eq 7, 3)), (83, (.iconst 0, 1)), (84, (.goto 4, 3)), (87, (.iconst 1, 1)), (88, (.aload_n 0, 1)), (89, (.getfield 26, 3)), (92, (.iload 4, 2)), (94, (.iload_n 1, 1)), (95, (.iload_n 2, 1))], [(96, (.aload_n 0, 1)), (97, (.getfield 40, 3)), (100, (.invokevirtual 198, 3)), (103, (.invokevirtual 232, 3)), (106, (.iinc 4 1, 3)), (109, (.goto (-76), 3))], [(112, (.aload_n 0, 1)), (113, (.getfield 47, 3)), (116, (.aload_n 0, 1)), (117, (.getfield 54, 3)), (120, (.invokevirtual 210, 3)), (123, (.ifCond .ne 11, 3)), (126, (.new 182, 3))], [(129, (.dup, 1)), (130, (.invokespecial 184, 3)), (133, (.athrow, 1)), (134, (.aload_n 0, 1)), (135, (.getfield 54, 3)), (138, (.iload_n 3, 1)), (139, (.invokevirtual 214, 3)), (142, (.lreturn, 1))]]
set_option maxRecDepth 100000 in
def pmc_180 : pm_T (Instr × Nat) := [[(0, (.iload_n 1, 1)), (1, (.iload_n 2, 1)), (2, (.invokestatic 179, 3)), (5, (.ifCond .eq 22, 3)), (8, (.iload_n 3, 1)), (9, (.bipush (-99), 2)), (11, (.bipush 99, 2)), (13, (.invokestatic 143, 3))], [(16, (.ifCond .eq 11, 3)), (19, (.iload 4, 2)), (21, (.invokestatic 201, 3)), (24, (.ifCond .ne 11, 3)), (27, (.new 182, 3)), (30, (.dup, 1)), (31, (.invokespecial 184, 3))], [(34, (.athrow, 1)), (35, (.aload_n 0, 1)), (36, (.iload_n 1, 1)), (37, (.iload_n 2, 1)), (38, (.invokevirtual 204, 3)), (41, (.aload_n 0, 1)), (42, (.getfield 47, 3)), (45, (.aload_n 0, 1)), (46, (.getfield 54, 3))], [(49, (.invokevirtual 210, 3)), (52, (.ifCond .ne 11, 3)), (55, (.new 182, 3)), (58, (.dup, 1)), (59, (.invokespecial 184, 3)), (62, (.athrow, 1)), (63, (.aload_n 0, 1))], [(64, (.getfield 58, 3)), (67, (.iload_n 3, 1)), (68, (.i2l, 1)), (69, (.iload_n 2, 1)), (70, (.iload_n 1, 1)), (71, (.isub, 1)), (72, (.i2l, 1)), (73, (.lmul, 1)), (74, (.lconst 1, 1)), (75, (.invokevirtual 273, 3)), (78, (.aload_n 0, 1)), (79, (.getfield 54, 3))], [(82, (.aload_n 0, 1)), (83, (.getfield 58, 3)), (86, (.invokevirtual 218, 3)), (89, (.aload_n 0, 1)), (90, (.getfield 54, 3)), (93, (.iload 4, 2)), (95, (.invokevirtual 214, 3))], [(98, (.lreturn, 1))]]
set_option maxRecDepth 100000 in
def pmc_181 : pm_T (Instr × Nat) := [[(0, (.iload_n 2, 1)), (1, (.invokestatic 201, 3)), (4, (.ifCond .eq 14, 3)), (7, (.aload_n 0, 1)), (8, (.getfield 125, 3)), (11, (.iload_n 1, 1)), (12, (.invokevirtual 360, 3)), (15, (.ifCond .ne 11, 3))], [(18, (.new 182, 3)), (21, (.dup, 1)), (22, (.invokespecial 184, 3)), (25, (.athrow, 1)), (26, (.aload_n 0, 1)), (27, (.getfield 54, 3)), (30, (.aload_n 0, 1)), (31, (.getfield 125, 3))], [(34, (.iload_n 1, 1)), (35, (.invokevirtual 364, 3)), (38, (.i2l, 1)), (39, (.aload_n 0, 1)), (40, (.getfield 125, 3)), (43, (.iload_n 1, 1)), (44, (.invokevirtual 360, 3)), (47, (.i2l, 1))], [(48, (.invokevirtual 273, 3)), (51, (.aload_n 0, 1)), (52, (.getfield 54, 3)), (55, (.iload_n 2, 1)), (56, (.invokevirtual 214, 3)), (59, (.lreturn, 1))]]
set_option maxRecDepth 100000 in
def pmc_182 : pm_T (Instr × Nat) := [[(0, (.iload_n 1, 1)), (1, (.invokestatic 311, 3)), (4, (.ifCond .eq 10, 3)), (7, (.iload_n 2, 1)), (8, (.invokestatic 201, 3)), (11, (.ifCond .ne 11, 3)), (14, (.new 182, 3))], [(17, (.dup, 1)), (18, (.invokespecial 184, 3)), (21, (.athrow, 1)), (22, (.aload_n 0, 1)), (23, (.getfield 107, 3)), (26, (.iload_n 1, 1)), (27, (.aaload, 1)), (28, (.astore_n 3, 1)), (29, (.aload_n 0, 1)), (30, (.aload_n 3, 1)), (31, (.aload_n 0, 1))], [(32, (.aload_n 3, 1)), (33, (.invokevirtual 367, 3)), (36, (.invokevirtual 375, 3)), (39, (.ifCond .ne 11, 3)), (42, (.new 182, 3)), (45, (.dup, 1)), (46, (.invokespecial 184, 3))], [(49, (.athrow, 1)), (50, (.aload_n 0, 1)), (51, (.getfield 54, 3)), (54, (.iload_n 2, 1)), (55, (.invokevirtual 214, 3)), (58, (.lreturn, 1))]]
set_option maxRecDepth 100000 in
def pmc_183 : pm_T (Instr × Nat) := [[(0, (.aload_n 0, 1)), (1, (.aload_n 1, 1)), (2, (.invokevirtual 389, 3)), (5, (.istore_n 3, 1)), (6, (.aload_n 0, 1)), (7, (.aload_n 1, 1)), (8, (.invokevirtual 392, 3)), (11, (.istore 4, 2)), (13, (.iload_n 3, 1)), (14, (.iload 4, 2))], [(16, (.invokestatic 179, 3)), (19, (.ifCond .ne 5, 3)), (22, (.iconst 0, 1)), (23, (.ireturn, 1)), (24, (.aload_n 0, 1)), (25, (.getfield 47, 3)), (28, (.invokevirtual 222, 3)), (31, (.iconst 0, 1))], [(32, (.istore 5, 2)), (34, (.iload 5, 2)), (36, (.bipush 24, 2)), (38, (.if_icmp .ge 78, 3)), (41, (.aload_n 0, 1)), (42, (.getfield 10, 3)), (45, (.iload 5, 2)), (47, (.invokevirtual 225, 3))], [(50, (.ifCond .eq 60, 3)), (53, (.aload_n 0, 1)), (54, (.getfield 26, 3)), (57, (.iload 5, 2)), (59, (.iload_n 3, 1)), (60, (.iload 4, 2)), (62, (.invokevirtual 192, 3))], [(65, (.ifCond .eq 45, 3)), (68, (.aload_n 0, 1)), (69, (.aload_n 1, 1)), (70, (.iload 5, 2)), (72, (.iload_n 2, 1)), (73, (.invokevirtual 371, 3)), (76, (.ifCond .eq 34, 3)), (79, (.aload_n 0, 1))], [(80, (.getfield 47, 3)), (83, (.iload 5, 2)), (85, (.aload_n 0, 1)), (86, (.getfield 10, 3)), (89, (.iload 5, 2)), (91, (.invokevirtual 228, 3)), (94, (.aload_n 0, 1)), (95, (.getfield 26, 3))], [(98, (.iload 5, 2)), (100, (.iload_n 3, 1)), (101, (.iload 4, 2)), (103, (.iload_n 2, 1)), (104, (.invokevirtual 198, 3)), (107, (.invokevirtual 232, 3)), (110, (.iinc 5 1, 3))], [(113, (.goto (-79), 3)), (116, (.aload_n 0, 1)), (117, (.getfield 47, 3)), (120, (.aload_n 0, 1)), (121, (.getfield 54, 3)), (124, (.invokevirtual 210, 3)), (127, (.ireturn, 1))]]
set_option maxRecDepth 100000 in
def pmc_184 : pm_T (Instr × Nat) := [[(0, (.iload_n 1, 1)), (1, (.iconst 0, 1)), (2, (.bipush 6, 2)), (4, (.invokestatic 143, 3)), (7, (.ifCond .ne 11, 3)), (10, (.new 182, 3)), (13, (.dup, 1)), (14, (.invokespecial 184, 3))], [(17, (.athrow, 1)), (18, (.iconst 0, 1)), (19, (.istore_n 2, 1)), (20, (.iconst 0, 1)), (21, (.istore_n 3, 1)), (22, (.iconst 0, 1)), (23, (.istore 4, 2)), (25, (.iload 4, 2)), (27, (.iconst 4, 1)), (28, (.if_icmp .ge 83, 3)), (31, (.iconst 0, 1))], [(32, (.istore 5, 2)), (34, (.iload 5, 2)), (36, (.bipush 10, 2)), (38, (.if_icmp .gt 67, 3)), (41, (.aload_n 0, 1)), (42, (.aload_n 0, 1)), (43, (.getfield 107, 3)), (46, (.iload 4, 2))], [(48, (.aaload, 1)), (49, (.iload 5, 2)), (51, (.invokevirtual 375, 3)), (54, (.ifCond .eq 45, 3)), (57, (.iload_n 3, 1)), (58, (.aload_n 0, 1)), (59, (.iload_n 1, 1)), (60, (.invokevirtual 379, 3)), (63, (.ifCond .eq 7, 3))], [(66, (.iconst 1, 1)), (67, (.goto 4, 3)), (70, (.iconst 0, 1)), (71, (.iadd, 1)), (72, (.istore_n 3, 1)), (73, (.aload_n 0, 1)), (74, (.iload_n 2, 1)), (75, (.ifCond .ne 7, 3)), (78, (.iconst 1, 1)), (79, (.goto 4, 3))], [(82, (.iconst 0, 1)), (83, (.iload_n 1, 1)), (84, (.iconst 5, 1)), (85, (.if_icmp .lt 7, 3)), (88, (.iconst 1, 1)), (89, (.goto 4, 3)), (92, (.iconst 0, 1)), (93, (.invokevirtual 382, 3))], [(96, (.iinc 2 1, 3)), (99, (.iinc 5 1, 3)), (102, (.goto (-68), 3)), (105, (.iinc 4 1, 3)), (108, (.goto (-83), 3)), (111, (.iload_n 1, 1))], [(112, (.iconst 2, 1)), (113, (.if_icmp .gt 6, 3)), (116, (.iload_n 3, 1)), (117, (.i2l, 1)), (118, (.lreturn, 1)), (119, (.iload_n 2, 1)), (120, (.ifCond .ne 11, 3)), (123, (.new 182, 3)), (126, (.dup, 1)), (127, (.invokespecial 184, 3))], [(130, (.athrow, 1)), (131, (.aload_n 0, 1)), (132, (.getfield 58, 3)), (135, (.iload_n 1, 1)), (136, (.iconst 3, 1)), (137, (.isub, 1)), (138, (.iconst 2, 1)), (139, (.irem, 1)), (140, (.invokevirtual 214, 3)), (143, (.lreturn, 1))]]
set_option maxRecDepth 100000 in
def pmc_185 : pm_T (Instr × Nat) := [[(0, (.iload_n 1, 1)), (1, (.ifCond .eq 33, 3)), (4, (.iload_n 1, 1)), (5, (.iconst 1, 1)), (6, (.if_icmp .ne 13, 3)), (9, (.aload_n 0, 1)), (10, (.getfield 54, 3)), (13, (.invokevirtual 248, 3))], [(16, (.ifCond .lt 18, 3)), (19, (.iload_n 1, 1)), (20, (.iconst 2, 1)), (21, (.if_icmp .ne 17, 3)), (24, (.aload_n 0, 1)), (25, (.getfield 54, 3)), (28, (.invokevirtual 248, 3)), (31, (.ifCond .le 7, 3))], [(34, (.iconst 1, 1)), (35, (.goto 4, 3)), (38, (.iconst 0, 1)), (39, (.ireturn, 1))]]
set_option maxRecDepth 100000 in
def pmc_186 : pm_T (Instr × Nat) := [[(0, (.iload_n 2, 1)), (1, (.ifCond .eq 17, 3)), (4, (.aload_n 0, 1)), (5, (.getfield 58, 3)), (8, (.aload_n 0, 1)), (9, (.getfield 54, 3)), (12, (.invokevirtual 298, 3)), (15, (.goto 14, 3))], [(18, (.aload_n 0, 1)), (19, (.getfield 54, 3)), (22, (.aload_n 0, 1)), (23, (.getfield 58, 3)), (26, (.invokevirtual 298, 3)), (29, (.istore_n 3, 1)), (30, (.iload_n 1, 1)), (31, (.ifCond .ne 7, 3))], [(34, (.iload_n 3, 1)), (35, (.ifCond .eq 14, 3)), (38, (.aload_n 0, 1)), (39, (.getfield 58, 3)), (42, (.aload_n 0, 1)), (43, (.getfield 54, 3)), (46, (.invokevirtual 301, 3))], [(49, (.return_, 1))]]
set_option maxRecDepth 100000 in
def pmc_187 : pm_T (Instr × Nat) := [[(0, (.aload_n 0, 1)), (1, (.iload_n 1, 1)), (2, (.invokevirtual 151, 3)), (5, (.ifCond .eq 19, 3)), (8, (.iload_n 2, 1)), (9, (.invokestatic 154, 3)), (12, (.ifCond .eq 12, 3)), (15, (.iload_n 3, 1))], [(16, (.iconst 0, 1)), (17, (.iconst 2, 1)), (18, (.invokestatic 143, 3)), (21, (.ifCond .ne 11, 3)), (24, (.new 182, 3)), (27, (.dup, 1)), (28, (.invokespecial 184, 3)), (31, (.athrow, 1))], [(32, (.iload_n 3, 1)), (33, (.ifCond .ne 10, 3)), (36, (.aload_n 0, 1)), (37, (.iload_n 1, 1)), (38, (.iload_n 2, 1)), (39, (.invokevirtual 409, 3)), (42, (.lreturn, 1)), (43, (.aload_n 0, 1)), (44, (.getfield 26, 3)), (47, (.iload_n 1, 1))], [(48, (.iload_n 2, 1)), (49, (.invokevirtual 171, 3)), (52, (.ifCond .eq 11, 3)), (55, (.new 182, 3)), (58, (.dup, 1)), (59, (.invokespecial 184, 3)), (62, (.athrow, 1)), (63, (.iload_n 3, 1))], [(64, (.iconst 1, 1)), (65, (.if_icmp .ne 12, 3)), (68, (.aload_n 0, 1)), (69, (.iload_n 1, 1)), (70, (.iload_n 2, 1)), (71, (.invokevirtual 413, 3)), (74, (.goto 9, 3)), (77, (.aload_n 0, 1)), (78, (.iload_n 1, 1)), (79, (.iload_n 2, 1))], [(80, (.invokevirtual 416, 3)), (83, (.lreturn, 1))]]
set_option maxRecDepth 100000 in
def pmc_188 : pm_T (Instr × Nat) := [[(0, (.aload_n 0, 1)), (1, (.getfield 10, 3)), (4, (.iload_n 1, 1)), (5, (.invokevirtual 288, 3)), (8, (.aload_n 0, 1)), (9, (.getfield 19, 3)), (12, (.aload_n 0, 1)), (13, (.getfield 10, 3))], [(16, (.iload_n 1, 1)), (17, (.invokevirtual 228, 3)), (20, (.iload_n 2, 1)), (21, (.invokevirtual 291, 3)), (24, (.invokestatic 348, 3)), (27, (.i2l, 1)), (28, (.lreturn, 1))]]
set_option maxRecDepth 100000 in
def pmc_189 : pm_T (Instr × Nat) := [[(0, (.aload_n 0, 1)), (1, (.getfield 26, 3)), (4, (.iload_n 1, 1)), (5, (.iload_n 2, 1)), (6, (.aload_n 0, 1)), (7, (.getfield 40, 3)), (10, (.invokevirtual 175, 3)), (13, (.i2l, 1)), (14, (.aload_n 0, 1)), (15, (.iload_n 1, 1))], [(16, (.iload_n 2, 1)), (17, (.invokevirtual 423, 3)), (20, (.lmul, 1)), (21, (.aload_n 0, 1)), (22, (.iload_n 1, 1)), (23, (.iload_n 2, 1)), (24, (.invokevirtual 409, 3)), (27, (.lmul, 1)), (28, (.lreturn, 1))]]
set_option maxRecDepth 100000 in
def pmc_190 : pm_T (Instr × Nat) := [[(0, (.aload_n 0, 1)), (1, (.getfield 33, 3)), (4, (.iload_n 1, 1)), (5, (.bipush 12, 2)), (7, (.imul, 1)), (8, (.iload_n 2, 1)), (9, (.iadd, 1)), (10, (.iaload, 1)), (11, (.i2l, 1)), (12, (.lreturn, 1))]]
set_option maxRecDepth 100000 in
def pmc_191 : pm_T (Instr × Nat) := [[(0, (.aload_n 0, 1)), (1, (.iload_n 1, 1)), (2, (.iload_n 2, 1)), (3, (.invokevirtual 426, 3)), (6, (.aload_n 0, 1)), (7, (.iload_n 1, 1)), (8, (.iload_n 2, 1)), (9, (.invokevirtual 413, 3)), (12, (.lsub, 1)), (13, (.lreturn, 1))]]
set_option maxRecDepth 100000 in
def pmc_192 : pm_T (Instr × Nat) := [[(0, (.ldc2_w 429, 3)), (3, (.aload_n 0, 1)), (4, (.getfield 37, 3)), (7, (.iload_n 1, 1)), (8, (.bipush 12, 2)), (10, (.imul, 1)), (11, (.iload_n 2, 1)), (12, (.iadd, 1)), (13, (.iaload, 1)), (14, (.i2l, 1)), (15, (.lmul, 1))], [(16, (.lreturn, 1))]]
set_option maxRecDepth 100000 in
def pmc_193 : pm_T (Instr × Nat) := [[(0, (.iload_n 1, 1)), (1, (.invokestatic 140, 3)), (4, (.ifCond .eq 21, 3)), (7, (.iload_n 2, 1)), (8, (.iload_n 3, 1)), (9, (.invokestatic 179, 3)), (12, (.ifCond .eq 13, 3)), (15, (.iload 4, 2))], [(17, (.iconst 0, 1)), (18, (.iconst 5, 1)), (19, (.invokestatic 143, 3)), (22, (.ifCond .ne 11, 3)), (25, (.new 182, 3)), (28, (.dup, 1)), (29, (.invokespecial 184, 3))], [(32, (.athrow, 1)), (33, (.lconst 0, 1)), (34, (.lstore 5, 2)), (36, (.iconst 0, 1)), (37, (.istore 7, 2)), (39, (.iload 7, 2)), (41, (.bipush 24, 2)), (43, (.if_icmp .ge 51, 3)), (46, (.aload_n 0, 1)), (47, (.getfield 10, 3))], [(50, (.iload 7, 2)), (52, (.iload_n 1, 1)), (53, (.invokevirtual 185, 3)), (56, (.ifCond .eq 32, 3)), (59, (.aload_n 0, 1)), (60, (.getfield 26, 3)), (63, (.iload 7, 2))], [(65, (.iload_n 2, 1)), (66, (.iload_n 3, 1)), (67, (.invokevirtual 192, 3)), (70, (.ifCond .eq 18, 3)), (73, (.lload 5, 2)), (75, (.aload_n 0, 1)), (76, (.iload 7, 2)), (78, (.iload_n 2, 1)), (79, (.iload_n 3, 1))], [(80, (.iload 4, 2)), (82, (.invokevirtual 419, 3)), (85, (.ladd, 1)), (86, (.lstore 5, 2)), (88, (.iinc 7 1, 3)), (91, (.goto (-52), 3)), (94, (.lload 5, 2))], [(96, (.lreturn, 1))]]
set_option maxRecDepth 100000 in
def pmc_194 : pm_T (Instr × Nat) := [[(0, (.aload_n 0, 1)), (1, (.getfield 26, 3)), (4, (.iload_n 1, 1)), (5, (.iload_n 3, 1)), (6, (.aload_n 0, 1)), (7, (.getfield 40, 3)), (10, (.invokevirtual 175, 3)), (13, (.i2l, 1)), (14, (.lstore 5, 2))], [(16, (.iload 4, 2)), (18, (.tableswitch 142 0 4 #[34, 48, 80, 104, 128], 34))], [], [(52, (.aload_n 0, 1)), (53, (.iload_n 1, 1)), (54, (.iload_n 3, 1)), (55, (.invokevirtual 413, 3)), (58, (.aload_n 0, 1)), (59, (.iload_n 1, 1)), (60, (.iload_n 2, 1)), (61, (.invokevirtual 413, 3))], [(64, (.lsub, 1)), (65, (.lreturn, 1)), (66, (.lload 5, 2)), (68, (.aload_n 0, 1)), (69, (.getfield 26, 3)), (72, (.iload_n 1, 1)), (73, (.iload_n 2, 1)), (74, (.aload_n 0, 1)), (75, (.getfield 40, 3)), (78, (.invokevirtual 175, 3))], [(81, (.i2l, 1)), (82, (.lsub, 1)), (83, (.aload_n 0, 1)), (84, (.iload_n 1, 1)), (85, (.iload_n 2, 1)), (86, (.invokevirtual 423, 3)), (89, (.lmul, 1)), (90, (.aload_n 0, 1)), (91, (.iload_n 1, 1)), (92, (.iload_n 2, 1)), (93, (.invokevirtual 409, 3))], [(96, (.lmul, 1)), (97, (.lreturn, 1)), (98, (.lload 5, 2)), (100, (.aload_n 0, 1)), (101, (.iload_n 1, 1)), (102, (.iload_n 3, 1)), (103, (.invokevirtual 423, 3)), (106, (.aload_n 0, 1)), (107, (.iload_n 1, 1)), (108, (.iload_n 2, 1)), (109, (.invokevirtual 423, 3))], [(112, (.lsub, 1)), (113, (.lmul, 1)), (114, (.aload_n 0, 1)), (115, (.iload_n 1, 1)), (116, (.iload_n 2, 1)), (117, (.invokevirtual 409, 3)), (120, (.lmul, 1)), (121, (.lreturn, 1)), (122, (.lload 5, 2)), (124, (.aload_n 0, 1)), (125, (.iload_n 1, 1)), (126, (.iload_n 3, 1)), (127, (.invokevirtual 423, 3))], [(130, (.lmul, 1)), (131, (.aload_n 0, 1)), (132, (.iload_n 1, 1)), (133, (.iload_n 3, 1)), (134, (.invokevirtual 409, 3)), (137, (.aload_n 0, 1)), (138, (.iload_n 1, 1)), (139, (.iload_n 2, 1)), (140, (.invokevirtual 409, 3)), (143, (.lsub, 1))], [(144, (.lmul, 1)), (145, (.lreturn, 1)), (146, (.aload_n 0, 1)), (147, (.iload_n 1, 1)), (148, (.iload_n 3, 1)), (149, (.invokevirtual 426, 3)), (152, (.aload_n 0, 1)), (153, (.iload_n 1, 1)), (154, (.iload_n 2, 1)), (155, (.invokevirtual 426, 3)), (158, (.lsub, 1)), (159, (.lreturn, 1))], [(160, (.aload_n 0, 1)), (161, (.iload_n 1, 1)), (162, (.iload_n 3, 1)), (163, (.invokevirtual 416, 3)), (166, (.aload_n 0, 1)), (167, (.iload_n 1, 1)), (168, (.iload_n 2, 1)), (169, (.invokevirtual 416, 3)), (172, (.lsub, 1)), (173, (.lreturn, 1))]]
set_option maxRecDepth 100000 in
def pmc_195 : pm_T (Instr × Nat) := [[(0, (.iload_n 1, 1)), (1, (.iload_n 2, 1)), (2, (.invokestatic 179, 3)), (5, (.ifCond .eq 10, 3)), (8, (.iload_n 3, 1)), (9, (.invokestatic 235, 3)), (12, (.ifCond .ne 11, 3)), (15, (.new 182, 3))], [(18, (.dup, 1)), (19, (.invokespecial 184, 3)), (22, (.athrow, 1)), (23, (.iload_n 3, 1)), (24, (.invokestatic 238, 3)), (27, (.istore 4, 2)), (29, (.aload_n 0, 1)), (30, (.getfield 47, 3))], [(33, (.invokevirtual 222, 3)), (36, (.iconst 0, 1)), (37, (.istore 5, 2)), (39, (.iload 5, 2)), (41, (.bipush 24, 2)), (43, (.if_icmp .ge 92, 3)), (46, (.aload_n 0, 1)), (47, (.getfield 10, 3))], [(50, (.iload 5, 2)), (52, (.invokevirtual 225, 3)), (55, (.ifCond .eq 74, 3)), (58, (.aload_n 0, 1)), (59, (.getfield 26, 3)), (62, (.iload 5, 2))], [(64, (.iload_n 1, 1)), (65, (.iload_n 2, 1)), (66, (.invokevirtual 192, 3)), (69, (.ifCond .eq 60, 3)), (72, (.aload_n 0, 1)), (73, (.getfield 10, 3)), (76, (.iload 5, 2)), (78, (.invokevirtual 228, 3))], [(81, (.ifCond .ne 7, 3)), (84, (.iconst 1, 1)), (85, (.goto 4, 3)), (88, (.iconst 0, 1)), (89, (.iload 4, 2)), (91, (.if_icmp .ne 7, 3)), (94, (.iconst 1, 1)), (95, (.goto 4, 3))], [(98, (.iconst 0, 1)), (99, (.istore 6, 2)), (101, (.aload_n 0, 1)), (102, (.getfield 47, 3)), (105, (.iload 5, 2)), (107, (.aload_n 0, 1)), (108, (.getfield 10, 3)), (111, (.iload 5, 2))], [(113, (.invokevirtual 228, 3)), (116, (.aload_n 0, 1)), (117, (.iload 5, 2)), (119, (.iload_n 1, 1)), (120, (.iload_n 2, 1)), (121, (.iload 6, 2)), (123, (.invokevirtual 447, 3)), (126, (.invokevirtual 232, 3))], [(129, (.iinc 5 1, 3)), (132, (.goto (-93), 3)), (135, (.aload_n 0, 1)), (136, (.getfield 47, 3)), (139, (.aload_n 0, 1)), (140, (.getfield 54, 3)), (143, (.invokevirtual 210, 3))], [(146, (.ifCond .ne 11, 3)), (149, (.new 182, 3)), (152, (.dup, 1)), (153, (.invokespecial 184, 3)), (156, (.athrow, 1)), (157, (.aload_n 0, 1)), (158, (.getfield 54, 3))], [(161, (.iload_n 3, 1)), (162, (.invokestatic 245, 3)), (165, (.invokevirtual 214, 3)), (168, (.lreturn, 1))]]
set_option maxRecDepth 100000 in
def pmc_196 : pm_T (Instr × Nat) := [[(0, (.aload_n 0, 1)), (1, (.getfield 26, 3)), (4, (.iload_n 1, 1)), (5, (.iload_n 2, 1)), (6, (.iload_n 3, 1)), (7, (.aload_n 0, 1)), (8, (.getfield 40, 3)), (11, (.invokevirtual 198, 3)), (14, (.istore 5, 2))], [(16, (.aload_n 0, 1)), (17, (.getfield 30, 3)), (20, (.iload_n 1, 1)), (21, (.iload_n 2, 1)), (22, (.iload_n 3, 1)), (23, (.invokevirtual 192, 3)), (26, (.ifCond .ne 6, 3)), (29, (.iload 5, 2)), (31, (.ireturn, 1))], [(32, (.aload_n 0, 1)), (33, (.getfield 30, 3)), (36, (.iload_n 1, 1)), (37, (.iload_n 2, 1)), (38, (.iload_n 3, 1)), (39, (.aload_n 0, 1)), (40, (.getfield 40, 3)), (43, (.invokevirtual 198, 3)), (46, (.istore 6, 2))], [(48, (.iload 4, 2)), (50, (.ifCond .eq 13, 3)), (53, (.iload 5, 2)), (55, (.iload 6, 2)), (57, (.invokestatic 348, 3)), (60, (.goto 10, 3)), (63, (.iload 5, 2))], [(65, (.iload 6, 2)), (67, (.invokestatic 444, 3)), (70, (.ireturn, 1))]]
end
section
/-! code of the methods (printed by wip/tool out of claim/Statement.lean), in chunks of 16 bytes; each row is what decode gives -/
set_option maxRecDepth 100000 in
def pmc_197 : pm_T (Instr × Nat) := [[(0, (.aload_n 0, 1)), (1, (.getfield 1, 3)), (4, (.ireturn, 1))]]
set_option maxRecDepth 100000 in
def pmc_198 : pm_T (Instr × Nat) := [[(0, (.aload_n 0, 1)), (1, (.iconst 0, 1)), (2, (.putfield 1, 3)), (5, (.aload_n 0, 1)), (6, (.lload_n 1, 1)), (7, (.invokevirtual 7, 3)), (10, (.aload_n 0, 1)), (11, (.lload_n 3, 1)), (12, (.invokevirtual 7, 3)), (15, (.aload_n 0, 1))], [(16, (.lload 5, 2)), (18, (.invokevirtual 7, 3)), (21, (.aload_n 0, 1)), (22, (.getfield 11, 3)), (25, (.ireturn, 1))]]
set_option maxRecDepth 100000 in
def pmc_199 : pm_T (Instr × Nat) := [[(0, (.bipush 56, 2)), (2, (.istore_n 3, 1)), (3, (.iload_n 3, 1)), (4, (.ifCond .lt 71, 3)), (7, (.lload_n 1, 1)), (8, (.iload_n 3, 1)), (9, (.lshr, 1)), (10, (.l2i, 1)), (11, (.sipush 255, 3)), (14, (.iand, 1)), (15, (.istore 4, 2))], [(17, (.iload 4, 2)), (19, (.bipush 10, 2)), (21, (.if_icmp .eq 17, 3)), (24, (.iload 4, 2)), (26, (.bipush 32, 2)), (28, (.if_icmp .lt 41, 3)), (31, (.iload 4, 2))], [(33, (.bipush 126, 2)), (35, (.if_icmp .gt 34, 3)), (38, (.aload_n 0, 1)), (39, (.getfield 11, 3)), (42, (.sipush 1000, 3)), (45, (.if_icmp .ge 24, 3))], [(48, (.aload_n 0, 1)), (49, (.getfield 14, 3)), (52, (.aload_n 0, 1)), (53, (.getfield 11, 3)), (56, (.iload 4, 2)), (58, (.iastore, 1)), (59, (.aload_n 0, 1)), (60, (.dup, 1)), (61, (.getfield 11, 3))], [(64, (.iconst 1, 1)), (65, (.iadd, 1)), (66, (.putfield 11, 3)), (69, (.iinc 3 (-8), 3)), (72, (.goto (-69), 3)), (75, (.return_, 1))]]
set_option maxRecDepth 100000 in
def pmc_200 : pm_T (Instr × Nat) := [[(0, (.aload_n 0, 1)), (1, (.invokespecial 18, 3)), (4, (.aload_n 0, 1)), (5, (.sipush 1000, 3)), (8, (.newarray .int, 2)), (10, (.putfield 14, 3)), (13, (.aload_n 0, 1)), (14, (.sipush 1002, 3))], [(17, (.newarray .int, 2)), (19, (.putfield 24, 3)), (22, (.aload_n 0, 1)), (23, (.sipush 1002, 3)), (26, (.newarray .int, 2)), (28, (.putfield 27, 3)), (31, (.aload_n 0, 1))], [(32, (.sipush 1002, 3)), (35, (.newarray .long, 2)), (37, (.putfield 30, 3)), (40, (.aload_n 0, 1)), (41, (.bipush 28, 2)), (43, (.newarray .long, 2)), (45, (.dup, 1)), (46, (.iconst 0, 1)), (47, (.ldc2_w 34, 3))], [(50, (.lastore, 1)), (51, (.dup, 1)), (52, (.iconst 1, 1)), (53, (.ldc2_w 36, 3)), (56, (.lastore, 1)), (57, (.dup, 1)), (58, (.iconst 2, 1)), (59, (.ldc2_w 38, 3)), (62, (.lastore, 1)), (63, (.dup, 1))], [(64, (.iconst 3, 1)), (65, (.ldc2_w 40, 3)), (68, (.lastore, 1)), (69, (.dup, 1)), (70, (.iconst 4, 1)), (71, (.ldc2_w 42, 3)), (74, (.lastore, 1)), (75, (.dup, 1)), (76, (.iconst 5, 1)), (77, (.ldc2_w 44, 3))], [(80, (.lastore, 1)), (81, (.dup, 1)), (82, (.bipush 6, 2)), (84, (.ldc2_w 46, 3)), (87, (.lastore, 1)), (88, (.dup, 1)), (89, (.bipush 7, 2)), (91, (.ldc2_w 48, 3)), (94, (.lastore, 1)), (95, (.dup, 1))], [(96, (.bipush 8, 2)), (98, (.ldc2_w 50, 3)), (101, (.lastore, 1)), (102, (.dup, 1)), (103, (.bipush 9, 2)), (105, (.ldc2_w 52, 3)), (108, (.lastore, 1)), (109, (.dup, 1)), (110, (.bipush 10, 2))], [(112, (.ldc2_w 54, 3)), (115, (.lastore, 1)), (116, (.dup, 1)), (117, (.bipush 11, 2)), (119, (.ldc2_w 56, 3)), (122, (.lastore, 1)), (123, (.dup, 1)), (124, (.bipush 12, 2)), (126, (.ldc2_w 58, 3))], [(129, (.lastore, 1)), (130, (.dup, 1)), (131, (.bipush 13, 2)), (133, (.ldc2_w 60, 3)), (136, (.lastore, 1)), (137, (.dup, 1)), (138, (.bipush 14, 2)), (140, (.ldc2_w 62, 3)), (143, (.lastore, 1))], [(144, (.dup, 1)), (145, (.bipush 15, 2)), (147, (.ldc2_w 64, 3)), (150, (.lastore, 1)), (151, (.dup, 1)), (152, (.bipush 16, 2)), (154, (.ldc2_w 66, 3)), (157, (.lastore, 1)), (158, (.dup, 1)), (159, (.bipush 17, 2))], [(161, (.ldc2_w 68, 3)), (164, (.lastore, 1)), (165, (.dup, 1)), (166, (.bipush 18, 2)), (168, (.ldc2_w 70, 3)), (171, (.lastore, 1)), (172, (.dup, 1)), (173, (.bipush 19, 2)), (175, (.ldc2_w 72, 3))], [(178, (.lastore, 1)), (179, (.dup, 1)), (180, (.bipush 20, 2)), (182, (.ldc2_w 74, 3)), (185, (.lastore, 1)), (186, (.dup, 1)), (187, (.bipush 21, 2)), (189, (.ldc2_w 76, 3))], [(192, (.lastore, 1)), (193, (.dup, 1)), (194, (.bipush 22, 2)), (196, (.ldc2_w 78, 3)), (199, (.lastore, 1)), (200, (.dup, 1)), (201, (.bipush 23, 2)), (203, (.ldc2_w 80, 3)), (206, (.lastore, 1)), (207, (.dup, 1))], [(208, (.bipush 24, 2)), (210, (.ldc2_w 82, 3)), (213, (.lastore, 1)), (214, (.dup, 1)), (215, (.bipush 25, 2)), (217, (.ldc2_w 84, 3)), (220, (.lastore, 1)), (221, (.dup, 1)), (222, (.bipush 26, 2))], [(224, (.ldc2_w 86, 3)), (227, (.lastore, 1)), (228, (.dup, 1)), (229, (.bipush 27, 2)), (231, (.ldc2_w 88, 3)), (234, (.lastore, 1)), (235, (.putfield 90, 3)), (238, (.aload_n 0, 1)), (239, (.bipush 24, 2))], [(241, (.newarray .boolean, 2)), (243, (.putfield 93, 3)), (246, (.aload_n 0, 1)), (247, (.bipush 24, 2)), (249, (.newarray .int, 2)), (251, (.putfield 97, 3)), (254, (.aload_n 0, 1)), (255, (.bipush 24, 2))], [(257, (.newarray .int, 2)), (259, (.putfield 100, 3)), (262, (.aload_n 0, 1)), (263, (.bipush 24, 2)), (265, (.newarray .int, 2)), (267, (.putfield 103, 3)), (270, (.aload_n 0, 1)), (271, (.bipush 24, 2))], [(273, (.newarray .boolean, 2)), (275, (.putfield 106, 3)), (278, (.aload_n 0, 1)), (279, (.bipush 24, 2)), (281, (.newarray .int, 2)), (283, (.putfield 109, 3)), (286, (.aload_n 0, 1)), (287, (.bipush 24, 2))], [(289, (.newarray .int, 2)), (291, (.putfield 112, 3)), (294, (.aload_n 0, 1)), (295, (.sipush 288, 3)), (298, (.newarray .int, 2)), (300, (.putfield 115, 3)), (303, (.aload_n 0, 1))], [(304, (.sipush 288, 3)), (307, (.newarray .int, 2)), (309, (.putfield 118, 3)), (312, (.aload_n 0, 1)), (313, (.sipush 288, 3)), (316, (.newarray .int, 2)), (318, (.putfield 121, 3))], [(321, (.aload_n 0, 1)), (322, (.sipush 288, 3)), (325, (.newarray .int, 2)), (327, (.putfield 124, 3)), (330, (.aload_n 0, 1)), (331, (.sipush 288, 3)), (334, (.newarray .int, 2))], [(336, (.putfield 127, 3)), (339, (.aload_n 0, 1)), (340, (.sipush 288, 3)), (343, (.newarray .int, 2)), (345, (.putfield 130, 3)), (348, (.aload_n 0, 1)), (349, (.bipush 24, 2)), (351, (.newarray .int, 2))], [(353, (.putfield 133, 3)), (356, (.aload_n 0, 1)), (357, (.bipush 20, 2)), (359, (.newarray .int, 2)), (361, (.putfield 136, 3)), (364, (.aload_n 0, 1)), (365, (.sipush 9900, 3))], [(368, (.newarray .int, 2)), (370, (.putfield 139, 3)), (373, (.aload_n 0, 1)), (374, (.sipush 9900, 3)), (377, (.newarray .int, 2)), (379, (.putfield 142, 3)), (382, (.aload_n 0, 1)), (383, (.bipush 9, 2))], [(385, (.newarray .int, 2)), (387, (.dup, 1)), (388, (.iconst 0, 1)), (389, (.bipush 13, 2)), (391, (.iastore, 1)), (392, (.dup, 1)), (393, (.iconst 1, 1)), (394, (.bipush 10, 2)), (396, (.iastore, 1)), (397, (.dup, 1)), (398, (.iconst 2, 1)), (399, (.bipush 22, 2))], [(401, (.iastore, 1)), (402, (.dup, 1)), (403, (.iconst 3, 1)), (404, (.bipush 23, 2)), (406, (.iastore, 1)), (407, (.dup, 1)), (408, (.iconst 4, 1)), (409, (.bipush 24, 2)), (411, (.iastore, 1)), (412, (.dup, 1)), (413, (.iconst 5, 1)), (414, (.iconst 2, 1)), (415, (.iastore, 1))], [(416, (.dup, 1)), (417, (.bipush 6, 2)), (419, (.bipush 25, 2)), (421, (.iastore, 1)), (422, (.dup, 1)), (423, (.bipush 7, 2)), (425, (.bipush 26, 2)), (427, (.iastore, 1)), (428, (.dup, 1)), (429, (.bipush 8, 2)), (431, (.bipush 27, 2))], [(433, (.iastore, 1)), (434, (.putfield 145, 3)), (437, (.aload_n 0, 1)), (438, (.bipush 10, 2)), (440, (.newarray .int, 2)), (442, (.putfield 148, 3)), (445, (.aload_n 0, 1)), (446, (.sipush 1100, 3))], [(449, (.newarray .int, 2)), (451, (.putfield 151, 3)), (454, (.aload_n 0, 1)), (455, (.sipush 288, 3)), (458, (.newarray .int, 2)), (460, (.putfield 154, 3)), (463, (.aload_n 0, 1))], [(464, (.sipush 288, 3)), (467, (.newarray .int, 2)), (469, (.putfield 157, 3)), (472, (.aload_n 0, 1)), (473, (.sipush 288, 3)), (476, (.newarray .boolean, 2)), (478, (.putfield 160, 3))], [(481, (.aload_n 0, 1)), (482, (.bipush 20, 2)), (484, (.newarray .int, 2)), (486, (.putfield 163, 3)), (489, (.aload_n 0, 1)), (490, (.bipush 20, 2)), (492, (.newarray .int, 2)), (494, (.putfield 166, 3))], [(497, (.aload_n 0, 1)), (498, (.bipush 20, 2)), (500, (.newarray .boolean, 2)), (502, (.putfield 169, 3)), (505, (.aload_n 0, 1)), (506, (.iconst 4, 1)), (507, (.newarray .int, 2)), (509, (.putfield 172, 3))], [(512, (.aload_n 0, 1)), (513, (.iconst 4, 1)), (514, (.newarray .int, 2)), (516, (.putfield 175, 3)), (519, (.aload_n 0, 1)), (520, (.iconst 4, 1)), (521, (.newarray .int, 2)), (523, (.putfield 178, 3)), (526, (.aload_n 0, 1)), (527, (.iconst 4, 1))], [(528, (.newarray .int, 2)), (530, (.putfield 181, 3)), (533, (.aload_n 0, 1)), (534, (.iconst 4, 1)), (535, (.newarray .int, 2)), (537, (.putfield 184, 3)), (540, (.aload_n 0, 1)), (541, (.sipush 288, 3))], [(544, (.newarray .int, 2)), (546, (.putfield 187, 3)), (549, (.aload_n 0, 1)), (550, (.sipush 288, 3)), (553, (.newarray .int, 2)), (555, (.putfield 190, 3)), (558, (.aload_n 0, 1)), (559, (.bipush 9, 2))], [(561, (.newarray .int, 2)), (563, (.putfield 193, 3)), (566, (.aload_n 0, 1)), (567, (.bipush 9, 2)), (569, (.newarray .int, 2)), (571, (.putfield 196, 3)), (574, (.aload_n 0, 1)), (575, (.iconst 4, 1))], [(576, (.newarray .boolean, 2)), (578, (.putfield 199, 3)), (581, (.aload_n 0, 1)), (582, (.iconst 4, 1)), (583, (.newarray .int, 2)), (585, (.putfield 202, 3)), (588, (.aload_n 0, 1)), (589, (.sipush 6912, 3))], [(592, (.newarray .int, 2)), (594, (.putfield 205, 3)), (597, (.aload_n 0, 1)), (598, (.iconst 5, 1)), (599, (.putfield 208, 3)), (602, (.iconst 0, 1)), (603, (.istore_n 1, 1)), (604, (.iload_n 1, 1)), (605, (.bipush 20, 2)), (607, (.if_icmp .ge 16, 3))], [(610, (.aload_n 0, 1)), (611, (.getfield 136, 3)), (614, (.iload_n 1, 1)), (615, (.iconst (-1), 1)), (616, (.iastore, 1)), (617, (.iinc 1 1, 3)), (620, (.goto (-16), 3)), (623, (.iconst 0, 1))], [(624, (.istore_n 1, 1)), (625, (.iload_n 1, 1)), (626, (.iconst 4, 1)), (627, (.if_icmp .ge 38, 3)), (630, (.aload_n 0, 1)), (631, (.getfield 172, 3)), (634, (.iload_n 1, 1)), (635, (.iconst (-1), 1)), (636, (.iastore, 1)), (637, (.aload_n 0, 1)), (638, (.getfield 175, 3))], [(641, (.iload_n 1, 1)), (642, (.iconst 0, 1)), (643, (.iastore, 1)), (644, (.aload_n 0, 1)), (645, (.getfield 178, 3)), (648, (.iload_n 1, 1)), (649, (.bipush 11, 2)), (651, (.iastore, 1)), (652, (.aload_n 0, 1)), (653, (.getfield 181, 3))], [(656, (.iload_n 1, 1)), (657, (.iconst (-1), 1)), (658, (.iastore, 1)), (659, (.iinc 1 1, 3)), (662, (.goto (-37), 3)), (665, (.return_, 1))]]
set_option maxRecDepth 100000 in
def pmc_201 : pm_T (Instr × Nat) := [[(0, (.aload_n 0, 1)), (1, (.iconst 0, 1)), (2, (.putfield 1, 3)), (5, (.iload_n 1, 1)), (6, (.iconst 0, 1)), (7, (.bipush 23, 2)), (9, (.invokestatic 253, 3)), (12, (.ifCond .eq 34, 3)), (15, (.iload_n 2, 1))], [(16, (.iconst 0, 1)), (17, (.iconst 1, 1)), (18, (.invokestatic 253, 3)), (21, (.ifCond .eq 25, 3)), (24, (.iload_n 3, 1)), (25, (.iconst 0, 1)), (26, (.sipush 999, 3)), (29, (.invokestatic 253, 3))], [(32, (.ifCond .eq 14, 3)), (35, (.iload 4, 2)), (37, (.iconst 0, 1)), (38, (.bipush 99, 2)), (40, (.invokestatic 253, 3)), (43, (.ifCond .ne 5, 3)), (46, (.iconst 0, 1)), (47, (.ireturn, 1))], [(48, (.aload_n 0, 1)), (49, (.getfield 93, 3)), (52, (.iload_n 1, 1)), (53, (.iconst 1, 1)), (54, (.bastore, 1)), (55, (.aload_n 0, 1)), (56, (.getfield 97, 3)), (59, (.iload_n 1, 1)), (60, (.iload_n 2, 1)), (61, (.iastore, 1)), (62, (.aload_n 0, 1)), (63, (.getfield 100, 3))], [(66, (.iload_n 1, 1)), (67, (.iload_n 3, 1)), (68, (.iastore, 1)), (69, (.aload_n 0, 1)), (70, (.getfield 103, 3)), (73, (.iload_n 1, 1)), (74, (.iload 4, 2)), (76, (.iastore, 1)), (77, (.aload_n 0, 1)), (78, (.getfield 106, 3))], [(81, (.iload_n 1, 1)), (82, (.iload 5, 2)), (84, (.bastore, 1)), (85, (.iconst 1, 1)), (86, (.ireturn, 1))]]
set_option maxRecDepth 100000 in
def pmc_202 : pm_T (Instr × Nat) := [[(0, (.iload_n 0, 1)), (1, (.iload_n 1, 1)), (2, (.if_icmp .lt 12, 3)), (5, (.iload_n 0, 1)), (6, (.iload_n 2, 1)), (7, (.if_icmp .gt 7, 3)), (10, (.iconst 1, 1)), (11, (.goto 4, 3)), (14, (.iconst 0, 1)), (15, (.ireturn, 1))]]
set_option maxRecDepth 100000 in
def pmc_203 : pm_T (Instr × Nat) := [[(0, (.aload_n 0, 1)), (1, (.iconst 0, 1)), (2, (.putfield 1, 3)), (5, (.aload_n 0, 1)), (6, (.iload_n 1, 1)), (7, (.invokevirtual 257, 3)), (10, (.ifCond .eq 10, 3)), (13, (.iload_n 2, 1)), (14, (.invokestatic 260, 3))], [(17, (.ifCond .ne 5, 3)), (20, (.iconst 0, 1)), (21, (.ireturn, 1)), (22, (.iload_n 3, 1)), (23, (.iconst (-1), 1)), (24, (.if_icmp .ne 13, 3)), (27, (.iload 4, 2)), (29, (.iconst (-1), 1)), (30, (.if_icmp .ne 7, 3))], [(33, (.iconst 1, 1)), (34, (.goto 4, 3)), (37, (.iconst 0, 1)), (38, (.istore 5, 2)), (40, (.iload_n 3, 1)), (41, (.iconst 0, 1)), (42, (.bipush 99, 2)), (44, (.invokestatic 253, 3)), (47, (.ifCond .eq 13, 3))], [(50, (.iload 4, 2)), (52, (.iconst (-1), 1)), (53, (.if_icmp .ne 7, 3)), (56, (.iconst 1, 1)), (57, (.goto 4, 3)), (60, (.iconst 0, 1)), (61, (.istore 6, 2)), (63, (.iload 5, 2))], [(65, (.ifCond .ne 31, 3)), (68, (.iload 6, 2)), (70, (.ifCond .ne 26, 3)), (73, (.iload_n 3, 1)), (74, (.iconst 0, 1)), (75, (.bipush 99, 2)), (77, (.invokestatic 253, 3))], [(80, (.ifCond .eq 14, 3)), (83, (.iload 4, 2)), (85, (.iconst 0, 1)), (86, (.bipush 99, 2)), (88, (.invokestatic 253, 3)), (91, (.ifCond .ne 5, 3)), (94, (.iconst 0, 1)), (95, (.ireturn, 1))], [(96, (.bipush 12, 2)), (98, (.iload_n 1, 1)), (99, (.imul, 1)), (100, (.iload_n 2, 1)), (101, (.iadd, 1)), (102, (.istore 7, 2)), (104, (.aload_n 0, 1)), (105, (.getfield 115, 3)), (108, (.iload 7, 2)), (110, (.iload 5, 2))], [(112, (.ifCond .eq 7, 3)), (115, (.iconst 2, 1)), (116, (.goto 13, 3)), (119, (.iload 6, 2)), (121, (.ifCond .eq 7, 3)), (124, (.iconst 0, 1)), (125, (.goto 4, 3))], [(128, (.iconst 1, 1)), (129, (.iastore, 1)), (130, (.aload_n 0, 1)), (131, (.getfield 118, 3)), (134, (.iload 7, 2)), (136, (.iload 5, 2)), (138, (.ifCond .ne 8, 3)), (141, (.iload 6, 2)), (143, (.ifCond .eq 7, 3))], [(146, (.iconst 0, 1)), (147, (.goto 4, 3)), (150, (.iload_n 3, 1)), (151, (.iastore, 1)), (152, (.aload_n 0, 1)), (153, (.getfield 121, 3)), (156, (.iload 7, 2)), (158, (.iload 5, 2))], [(160, (.ifCond .ne 8, 3)), (163, (.iload 6, 2)), (165, (.ifCond .eq 7, 3)), (168, (.iconst 0, 1)), (169, (.goto 5, 3)), (172, (.iload 4, 2)), (174, (.iastore, 1)), (175, (.iconst 1, 1))], [(176, (.ireturn, 1))]]
set_option maxRecDepth 100000 in
def pmc_204 : pm_T (Instr × Nat) := [[(0, (.iload_n 1, 1)), (1, (.iconst 0, 1)), (2, (.bipush 23, 2)), (4, (.invokestatic 253, 3)), (7, (.ifCond .eq 16, 3)), (10, (.aload_n 0, 1)), (11, (.getfield 93, 3)), (14, (.iload_n 1, 1)), (15, (.baload, 1))], [(16, (.ifCond .eq 7, 3)), (19, (.iconst 1, 1)), (20, (.goto 4, 3)), (23, (.iconst 0, 1)), (24, (.ireturn, 1))]]
set_option maxRecDepth 100000 in
def pmc_205 : pm_T (Instr × Nat) := [[(0, (.iload_n 0, 1)), (1, (.iconst 0, 1)), (2, (.bipush 11, 2)), (4, (.invokestatic 253, 3)), (7, (.ireturn, 1))]]
set_option maxRecDepth 100000 in
def pmc_206 : pm_T (Instr × Nat) := [[(0, (.aload_n 0, 1)), (1, (.iconst 0, 1)), (2, (.putfield 1, 3)), (5, (.aload_n 0, 1)), (6, (.iload_n 1, 1)), (7, (.invokevirtual 257, 3)), (10, (.ifCond .eq 31, 3)), (13, (.iload_n 2, 1)), (14, (.invokestatic 260, 3))], [(17, (.ifCond .eq 24, 3)), (20, (.iload_n 3, 1)), (21, (.iconst 0, 1)), (22, (.bipush 99, 2)), (24, (.invokestatic 253, 3)), (27, (.ifCond .eq 14, 3)), (30, (.iload 4, 2))], [(32, (.iconst 0, 1)), (33, (.bipush 99, 2)), (35, (.invokestatic 253, 3)), (38, (.ifCond .ne 5, 3)), (41, (.iconst 0, 1)), (42, (.ireturn, 1)), (43, (.bipush 12, 2)), (45, (.iload_n 1, 1)), (46, (.imul, 1)), (47, (.iload_n 2, 1))], [(48, (.iadd, 1)), (49, (.istore 5, 2)), (51, (.aload_n 0, 1)), (52, (.getfield 124, 3)), (55, (.iload 5, 2)), (57, (.iconst 1, 1)), (58, (.iastore, 1)), (59, (.aload_n 0, 1)), (60, (.getfield 127, 3)), (63, (.iload 5, 2))], [(65, (.iload_n 3, 1)), (66, (.iastore, 1)), (67, (.aload_n 0, 1)), (68, (.getfield 130, 3)), (71, (.iload 5, 2)), (73, (.iload 4, 2)), (75, (.iastore, 1)), (76, (.iconst 1, 1)), (77, (.ireturn, 1))]]
set_option maxRecDepth 100000 in
def pmc_207 : pm_T (Instr × Nat) := [[(0, (.aload_n 0, 1)), (1, (.iconst 0, 1)), (2, (.putfield 1, 3)), (5, (.iload_n 1, 1)), (6, (.iconst 0, 1)), (7, (.bipush 10, 2)), (9, (.invokestatic 253, 3)), (12, (.ifCond .ne 5, 3)), (15, (.iconst 0, 1))], [(16, (.ireturn, 1)), (17, (.aload_n 0, 1)), (18, (.iload_n 1, 1)), (19, (.putfield 208, 3)), (22, (.iconst 1, 1)), (23, (.ireturn, 1))]]
set_option maxRecDepth 100000 in
def pmc_208 : pm_T (Instr × Nat) := [[(0, (.aload_n 0, 1)), (1, (.iconst 0, 1)), (2, (.putfield 1, 3)), (5, (.iload_n 1, 1)), (6, (.iconst 0, 1)), (7, (.iconst 1, 1)), (8, (.invokestatic 253, 3)), (11, (.ifCond .eq 33, 3)), (14, (.iload_n 2, 1)), (15, (.invokestatic 260, 3))], [(18, (.ifCond .eq 26, 3)), (21, (.iload_n 3, 1)), (22, (.iconst 0, 1)), (23, (.sipush 999, 3)), (26, (.invokestatic 253, 3)), (29, (.ifCond .eq 15, 3))], [(32, (.iload 4, 2)), (34, (.bipush (-99), 2)), (36, (.bipush 99, 2)), (38, (.invokestatic 253, 3)), (41, (.ifCond .ne 5, 3)), (44, (.iconst 0, 1)), (45, (.ireturn, 1)), (46, (.iload_n 2, 1)), (47, (.istore 5, 2))], [(49, (.iload 5, 2)), (51, (.bipush 12, 2)), (53, (.if_icmp .ge 36, 3)), (56, (.aload_n 0, 1)), (57, (.getfield 109, 3)), (60, (.bipush 12, 2)), (62, (.iload_n 1, 1)), (63, (.imul, 1))], [(64, (.iload 5, 2)), (66, (.iadd, 1)), (67, (.iload_n 3, 1)), (68, (.iastore, 1)), (69, (.aload_n 0, 1)), (70, (.getfield 112, 3)), (73, (.bipush 12, 2)), (75, (.iload_n 1, 1)), (76, (.imul, 1)), (77, (.iload 5, 2)), (79, (.iadd, 1))], [(80, (.iload 4, 2)), (82, (.iastore, 1)), (83, (.iinc 5 1, 3)), (86, (.goto (-37), 3)), (89, (.iconst 1, 1)), (90, (.ireturn, 1))]]
set_option maxRecDepth 100000 in
def pmc_209 : pm_T (Instr × Nat) := [[(0, (.aload_n 0, 1)), (1, (.iconst 0, 1)), (2, (.putfield 1, 3)), (5, (.aload_n 0, 1)), (6, (.iload_n 1, 1)), (7, (.invokevirtual 257, 3)), (10, (.ifCond .eq 33, 3)), (13, (.iload_n 2, 1)), (14, (.invokestatic 260, 3))], [(17, (.ifCond .eq 26, 3)), (20, (.aload_n 0, 1)), (21, (.getfield 115, 3)), (24, (.bipush 12, 2)), (26, (.iload_n 1, 1)), (27, (.imul, 1)), (28, (.iload_n 2, 1)), (29, (.iadd, 1)), (30, (.iaload, 1)), (31, (.ifCond .eq 12, 3))], [(34, (.aload_n 0, 1)), (35, (.iload_n 1, 1)), (36, (.iload_n 2, 1)), (37, (.invokevirtual 267, 3)), (40, (.goto 4, 3)), (43, (.iconst (-1), 1)), (44, (.ireturn, 1))]]
set_option maxRecDepth 100000 in
def pmc_210 : pm_T (Instr × Nat) := [[(0, (.aload_n 0, 1)), (1, (.aload_n 0, 1)), (2, (.getfield 118, 3)), (5, (.bipush 12, 2)), (7, (.iload_n 1, 1)), (8, (.imul, 1)), (9, (.iload_n 2, 1)), (10, (.iadd, 1)), (11, (.iaload, 1)), (12, (.aload_n 0, 1)), (13, (.getfield 121, 3))], [(16, (.bipush 12, 2)), (18, (.iload_n 1, 1)), (19, (.imul, 1)), (20, (.iload_n 2, 1)), (21, (.iadd, 1)), (22, (.iaload, 1)), (23, (.invokevirtual 263, 3)), (26, (.ireturn, 1))]]
set_option maxRecDepth 100000 in
def pmc_211 : pm_T (Instr × Nat) := [[(0, (.bipush 10, 2)), (2, (.iload_n 1, 1)), (3, (.imul, 1)), (4, (.aload_n 0, 1)), (5, (.getfield 208, 3)), (8, (.iload_n 2, 1)), (9, (.imul, 1)), (10, (.iadd, 1)), (11, (.ireturn, 1))]]
set_option maxRecDepth 100000 in
def pmc_212 : pm_T (Instr × Nat) := [[(0, (.aload_n 0, 1)), (1, (.iload_n 1, 1)), (2, (.iconst 0, 1)), (3, (.iconst 1, 1)), (4, (.invokestatic 253, 3)), (7, (.ifCond .eq 25, 3)), (10, (.iload_n 2, 1)), (11, (.iload_n 3, 1)), (12, (.invokestatic 270, 3)), (15, (.ifCond .eq 17, 3))], [(18, (.iload 4, 2)), (20, (.iconst 0, 1)), (21, (.iconst 4, 1)), (22, (.invokestatic 253, 3)), (25, (.ifCond .eq 7, 3)), (28, (.iconst 0, 1)), (29, (.goto 4, 3))], [(32, (.iconst 1, 1)), (33, (.putfield 1, 3)), (36, (.aload_n 0, 1)), (37, (.getfield 1, 3)), (40, (.ifCond .le 5, 3)), (43, (.iconst 0, 1)), (44, (.ireturn, 1)), (45, (.iconst 0, 1)), (46, (.istore 5, 2))], [(48, (.iconst 0, 1)), (49, (.istore 6, 2)), (51, (.iload 6, 2)), (53, (.bipush 24, 2)), (55, (.if_icmp .ge 220, 3)), (58, (.aload_n 0, 1)), (59, (.getfield 93, 3)), (62, (.iload 6, 2))], [(64, (.baload, 1)), (65, (.ifCond .eq 18, 3)), (68, (.aload_n 0, 1)), (69, (.getfield 97, 3)), (72, (.iload 6, 2)), (74, (.iaload, 1)), (75, (.iload_n 1, 1)), (76, (.if_icmp .ne 7, 3)), (79, (.iconst 1, 1))], [(80, (.goto 4, 3)), (83, (.iconst 0, 1)), (84, (.istore 7, 2)), (86, (.iload 7, 2)), (88, (.ifCond .eq 18, 3)), (91, (.aload_n 0, 1)), (92, (.iload 6, 2)), (94, (.iload_n 2, 1)), (95, (.iload_n 3, 1))], [(96, (.invokevirtual 274, 3)), (99, (.ifCond .eq 7, 3)), (102, (.iconst 1, 1)), (103, (.goto 4, 3)), (106, (.iconst 0, 1)), (107, (.istore 8, 2)), (109, (.aload_n 0, 1)), (110, (.getfield 115, 3))], [(113, (.bipush 12, 2)), (115, (.iload 6, 2)), (117, (.imul, 1)), (118, (.iload_n 2, 1)), (119, (.iadd, 1)), (120, (.iaload, 1)), (121, (.iconst 2, 1)), (122, (.if_icmp .ne 7, 3)), (125, (.iconst 1, 1)), (126, (.goto 4, 3))], [(129, (.iconst 0, 1)), (130, (.istore 9, 2)), (132, (.aload_n 0, 1)), (133, (.getfield 115, 3)), (136, (.bipush 12, 2)), (138, (.iload 6, 2)), (140, (.imul, 1)), (141, (.iload_n 3, 1)), (142, (.iadd, 1)), (143, (.iaload, 1))], [(144, (.iconst 2, 1)), (145, (.if_icmp .ne 7, 3)), (148, (.iconst 1, 1)), (149, (.goto 4, 3)), (152, (.iconst 0, 1)), (153, (.istore 10, 2)), (155, (.iload 4, 2)), (157, (.iconst 4, 1)), (158, (.if_icmp .ne 28, 3))], [(161, (.iload 5, 2)), (163, (.iload 8, 2)), (165, (.ifCond .eq 14, 3)), (168, (.aload_n 0, 1)), (169, (.iload 6, 2)), (171, (.iload_n 2, 1)), (172, (.iload_n 3, 1)), (173, (.invokevirtual 277, 3))], [(176, (.goto 4, 3)), (179, (.iconst 0, 1)), (180, (.iadd, 1)), (181, (.istore 5, 2)), (183, (.goto 86, 3)), (186, (.iload 4, 2)), (188, (.iconst 2, 1)), (189, (.if_icmp .ge 36, 3))], [(192, (.iload 5, 2)), (194, (.iload 7, 2)), (196, (.ifCond .eq 22, 3)), (199, (.iload 8, 2)), (201, (.iload 4, 2)), (203, (.ifCond .ne 7, 3)), (206, (.iconst 1, 1)), (207, (.goto 4, 3))], [(210, (.iconst 0, 1)), (211, (.if_icmp .ne 7, 3)), (214, (.iconst 1, 1)), (215, (.goto 4, 3)), (218, (.iconst 0, 1)), (219, (.iadd, 1)), (220, (.istore 5, 2)), (222, (.goto 47, 3))], [(225, (.iload 5, 2)), (227, (.iload 8, 2)), (229, (.ifCond .eq 36, 3)), (232, (.iload 4, 2)), (234, (.iconst 2, 1)), (235, (.if_icmp .ne 16, 3)), (238, (.iload 10, 2))], [(240, (.ifCond .eq 25, 3)), (243, (.iload 9, 2)), (245, (.ifCond .ne 20, 3)), (248, (.goto 13, 3)), (251, (.iload 9, 2)), (253, (.ifCond .eq 12, 3))], [(256, (.iload 10, 2)), (258, (.ifCond .ne 7, 3)), (261, (.iconst 1, 1)), (262, (.goto 4, 3)), (265, (.iconst 0, 1)), (266, (.iadd, 1)), (267, (.istore 5, 2)), (269, (.iinc 6 1, 3))], [(272, (.goto (-221), 3)), (275, (.iload 5, 2)), (277, (.ireturn, 1))]]
set_option maxRecDepth 100000 in
def pmc_213 : pm_T (Instr × Nat) := [[(0, (.iload_n 0, 1)), (1, (.invokestatic 260, 3)), (4, (.ifCond .eq 19, 3)), (7, (.iload_n 1, 1)), (8, (.invokestatic 260, 3)), (11, (.ifCond .eq 12, 3)), (14, (.iload_n 0, 1)), (15, (.iload_n 1, 1))], [(16, (.if_icmp .eq 7, 3)), (19, (.iconst 1, 1)), (20, (.goto 4, 3)), (23, (.iconst 0, 1)), (24, (.ireturn, 1))]]
set_option maxRecDepth 100000 in
def pmc_214 : pm_T (Instr × Nat) := [[(0, (.aload_n 0, 1)), (1, (.getfield 93, 3)), (4, (.iload_n 1, 1)), (5, (.baload, 1)), (6, (.ifCond .eq 35, 3)), (9, (.aload_n 0, 1)), (10, (.getfield 115, 3)), (13, (.bipush 12, 2)), (15, (.iload_n 1, 1))], [(16, (.imul, 1)), (17, (.iload_n 2, 1)), (18, (.iadd, 1)), (19, (.iaload, 1)), (20, (.ifCond .eq 21, 3)), (23, (.aload_n 0, 1)), (24, (.getfield 115, 3)), (27, (.bipush 12, 2)), (29, (.iload_n 1, 1)), (30, (.imul, 1)), (31, (.iload_n 3, 1))], [(32, (.iadd, 1)), (33, (.iaload, 1)), (34, (.ifCond .eq 7, 3)), (37, (.iconst 1, 1)), (38, (.goto 4, 3)), (41, (.iconst 0, 1)), (42, (.ireturn, 1))]]
set_option maxRecDepth 100000 in
def pmc_215 : pm_T (Instr × Nat) := [[(0, (.aload_n 0, 1)), (1, (.iload_n 1, 1)), (2, (.iload_n 3, 1)), (3, (.invokevirtual 267, 3)), (6, (.aload_n 0, 1)), (7, (.iload_n 1, 1)), (8, (.iload_n 2, 1)), (9, (.invokevirtual 267, 3)), (12, (.isub, 1)), (13, (.ireturn, 1))]]
set_option maxRecDepth 100000 in
def pmc_216 : pm_T (Instr × Nat) := [[(0, (.aload_n 0, 1)), (1, (.iload_n 1, 1)), (2, (.iload_n 2, 1)), (3, (.invokestatic 270, 3)), (6, (.ifCond .eq 38, 3)), (9, (.iload_n 3, 1)), (10, (.iconst (-1), 1)), (11, (.if_icmp .eq 11, 3)), (14, (.aload_n 0, 1)), (15, (.iload_n 3, 1))], [(16, (.invokevirtual 257, 3)), (19, (.ifCond .eq 25, 3)), (22, (.iload 4, 2)), (24, (.invokestatic 315, 3)), (27, (.ifCond .eq 17, 3)), (30, (.aload_n 0, 1)), (31, (.iload_n 1, 1))], [(32, (.iload_n 2, 1)), (33, (.iload_n 3, 1)), (34, (.invokevirtual 318, 3)), (37, (.ifCond .eq 7, 3)), (40, (.iconst 0, 1)), (41, (.goto 4, 3)), (44, (.iconst 1, 1)), (45, (.putfield 1, 3))], [(48, (.aload_n 0, 1)), (49, (.getfield 1, 3)), (52, (.ifCond .le 7, 3)), (55, (.lconst 0, 1)), (56, (.goto 9, 3)), (59, (.aload_n 0, 1)), (60, (.iload 4, 2)), (62, (.invokevirtual 321, 3))], [(65, (.lreturn, 1))]]
set_option maxRecDepth 100000 in
def pmc_217 : pm_T (Instr × Nat) := [[(0, (.iload_n 0, 1)), (1, (.iconst 0, 1)), (2, (.iconst 1, 1)), (3, (.invokestatic 253, 3)), (6, (.ireturn, 1))]]
set_option maxRecDepth 100000 in
def pmc_218 : pm_T (Instr × Nat) := [[(0, (.aload_n 0, 1)), (1, (.invokevirtual 304, 3)), (4, (.iconst 0, 1)), (5, (.istore 4, 2)), (7, (.iload 4, 2)), (9, (.bipush 24, 2)), (11, (.if_icmp .ge 54, 3)), (14, (.iload 4, 2))], [(16, (.iload_n 3, 1)), (17, (.if_icmp .eq 42, 3)), (20, (.aload_n 0, 1)), (21, (.iload 4, 2)), (23, (.iload_n 1, 1)), (24, (.iload_n 2, 1)), (25, (.invokevirtual 274, 3)), (28, (.ifCond .eq 31, 3)), (31, (.aload_n 0, 1))], [(32, (.aload_n 0, 1)), (33, (.getfield 97, 3)), (36, (.iload 4, 2)), (38, (.iaload, 1)), (39, (.ifCond .ne 7, 3)), (42, (.iconst 1, 1)), (43, (.goto 4, 3)), (46, (.iconst 0, 1)), (47, (.aload_n 0, 1))], [(48, (.iload 4, 2)), (50, (.iload_n 1, 1)), (51, (.iload_n 2, 1)), (52, (.invokevirtual 277, 3)), (55, (.i2l, 1)), (56, (.invokevirtual 307, 3)), (59, (.iinc 4 1, 3)), (62, (.goto (-55), 3))], [(65, (.aload_n 0, 1)), (66, (.invokevirtual 311, 3)), (69, (.ireturn, 1))]]
set_option maxRecDepth 100000 in
def pmc_219 : pm_T (Instr × Nat) := [[(0, (.aload_n 0, 1)), (1, (.lconst 0, 1)), (2, (.putfield 292, 3)), (5, (.aload_n 0, 1)), (6, (.lconst 0, 1)), (7, (.putfield 295, 3)), (10, (.aload_n 0, 1)), (11, (.lconst 0, 1)), (12, (.putfield 298, 3)), (15, (.aload_n 0, 1))], [(16, (.lconst 0, 1)), (17, (.putfield 301, 3)), (20, (.return_, 1))]]
set_option maxRecDepth 100000 in
def pmc_220 : pm_T (Instr × Nat) := [[(0, (.aload_n 0, 1)), (1, (.dup, 1)), (2, (.getfield 292, 3)), (5, (.iload_n 1, 1)), (6, (.ifCond .eq 7, 3)), (9, (.lload_n 2, 1)), (10, (.goto 4, 3)), (13, (.lconst 0, 1)), (14, (.ladd, 1)), (15, (.putfield 292, 3))], [(18, (.aload_n 0, 1)), (19, (.dup, 1)), (20, (.getfield 295, 3)), (23, (.iload_n 1, 1)), (24, (.ifCond .eq 7, 3)), (27, (.lconst 1, 1)), (28, (.goto 4, 3)), (31, (.lconst 0, 1))], [(32, (.ladd, 1)), (33, (.putfield 295, 3)), (36, (.aload_n 0, 1)), (37, (.dup, 1)), (38, (.getfield 298, 3)), (41, (.iload_n 1, 1)), (42, (.ifCond .eq 7, 3)), (45, (.lconst 0, 1)), (46, (.goto 4, 3))], [(49, (.lload_n 2, 1)), (50, (.ladd, 1)), (51, (.putfield 298, 3)), (54, (.aload_n 0, 1)), (55, (.dup, 1)), (56, (.getfield 301, 3)), (59, (.iload_n 1, 1)), (60, (.ifCond .eq 7, 3)), (63, (.lconst 0, 1))], [(64, (.goto 4, 3)), (67, (.lconst 1, 1)), (68, (.ladd, 1)), (69, (.putfield 301, 3)), (72, (.return_, 1))]]
set_option maxRecDepth 100000 in
def pmc_221 : pm_T (Instr × Nat) := [[(0, (.aload_n 0, 1)), (1, (.aload_n 0, 1)), (2, (.getfield 292, 3)), (5, (.aload_n 0, 1)), (6, (.getfield 301, 3)), (9, (.lmul, 1)), (10, (.aload_n 0, 1)), (11, (.getfield 298, 3)), (14, (.aload_n 0, 1)), (15, (.getfield 295, 3))], [(18, (.lmul, 1)), (19, (.lsub, 1)), (20, (.putfield 281, 3)), (23, (.aload_n 0, 1)), (24, (.aload_n 0, 1)), (25, (.getfield 295, 3)), (28, (.aload_n 0, 1)), (29, (.getfield 301, 3))], [(32, (.lmul, 1)), (33, (.putfield 285, 3)), (36, (.aload_n 0, 1)), (37, (.getfield 285, 3)), (40, (.lconst 0, 1)), (41, (.lcmp, 1)), (42, (.ifCond .le 7, 3)), (45, (.iconst 1, 1)), (46, (.goto 4, 3))], [(49, (.iconst 0, 1)), (50, (.ireturn, 1))]]
set_option maxRecDepth 100000 in
def pmc_222 : pm_T (Instr × Nat) := [[(0, (.aload_n 0, 1)), (1, (.getfield 281, 3)), (4, (.aload_n 0, 1)), (5, (.getfield 285, 3)), (8, (.invokestatic 288, 3)), (11, (.lstore_n 2, 1)), (12, (.iload_n 1, 1)), (13, (.ifCond .ne 12, 3))], [(16, (.aload_n 0, 1)), (17, (.getfield 281, 3)), (20, (.lload_n 2, 1)), (21, (.ldiv, 1)), (22, (.goto 9, 3)), (25, (.aload_n 0, 1)), (26, (.getfield 285, 3)), (29, (.lload_n 2, 1)), (30, (.ldiv, 1)), (31, (.lreturn, 1))]]
set_option maxRecDepth 100000 in
def pmc_223 : pm_T (Instr × Nat) := [[(0, (.lload_n 0, 1)), (1, (.lconst 0, 1)), (2, (.lcmp, 1)), (3, (.ifCond .ge 8, 3)), (6, (.lload_n 0, 1)), (7, (.lneg, 1)), (8, (.goto 4, 3)), (11, (.lload_n 0, 1)), (12, (.lstore 4, 2)), (14, (.lload_n 2, 1)), (15, (.lconst 0, 1))], [(16, (.lcmp, 1)), (17, (.ifCond .ge 8, 3)), (20, (.lload_n 2, 1)), (21, (.lneg, 1)), (22, (.goto 4, 3)), (25, (.lload_n 2, 1)), (26, (.lstore 6, 2)), (28, (.lload 6, 2)), (30, (.lconst 0, 1)), (31, (.lcmp, 1))], [(32, (.ifCond .eq 21, 3)), (35, (.lload 4, 2)), (37, (.lload 6, 2)), (39, (.lrem, 1)), (40, (.lstore 8, 2)), (42, (.lload 6, 2)), (44, (.lstore 4, 2)), (46, (.lload 8, 2))], [(48, (.lstore 6, 2)), (50, (.goto (-22), 3)), (53, (.lload 4, 2)), (55, (.lreturn, 1))]]
set_option maxRecDepth 100000 in
def pmc_224 : pm_T (Instr × Nat) := [[(0, (.aload_n 0, 1)), (1, (.iload_n 1, 1)), (2, (.iload_n 2, 1)), (3, (.invokestatic 270, 3)), (6, (.ifCond .eq 43, 3)), (9, (.aload_n 0, 1)), (10, (.iload_n 3, 1)), (11, (.invokevirtual 257, 3)), (14, (.ifCond .eq 35, 3))], [(17, (.aload_n 0, 1)), (18, (.iload_n 3, 1)), (19, (.iload_n 1, 1)), (20, (.iload_n 2, 1)), (21, (.invokevirtual 274, 3)), (24, (.ifCond .eq 25, 3)), (27, (.iload 4, 2)), (29, (.invokestatic 315, 3))], [(32, (.ifCond .eq 17, 3)), (35, (.aload_n 0, 1)), (36, (.iload_n 1, 1)), (37, (.iload_n 2, 1)), (38, (.iconst (-1), 1)), (39, (.invokevirtual 318, 3)), (42, (.ifCond .eq 7, 3)), (45, (.iconst 0, 1)), (46, (.goto 4, 3))], [(49, (.iconst 1, 1)), (50, (.putfield 1, 3)), (53, (.aload_n 0, 1)), (54, (.getfield 281, 3)), (57, (.lstore 5, 2)), (59, (.aload_n 0, 1)), (60, (.getfield 285, 3)), (63, (.lstore 7, 2))], [(65, (.aload_n 0, 1)), (66, (.aload_n 0, 1)), (67, (.getfield 1, 3)), (70, (.ifCond .gt 13, 3)), (73, (.aload_n 0, 1)), (74, (.iload_n 1, 1)), (75, (.iload_n 2, 1)), (76, (.iload_n 3, 1)), (77, (.invokevirtual 318, 3))], [(80, (.ifCond .ne 7, 3)), (83, (.iconst 1, 1)), (84, (.goto 4, 3)), (87, (.iconst 0, 1)), (88, (.putfield 1, 3)), (91, (.aload_n 0, 1)), (92, (.getfield 1, 3)), (95, (.ifCond .le 5, 3))], [(98, (.lconst 0, 1)), (99, (.lreturn, 1)), (100, (.aload_n 0, 1)), (101, (.lload 5, 2)), (103, (.aload_n 0, 1)), (104, (.getfield 285, 3)), (107, (.lmul, 1)), (108, (.aload_n 0, 1)), (109, (.getfield 281, 3))], [(112, (.lload 7, 2)), (114, (.lmul, 1)), (115, (.lsub, 1)), (116, (.putfield 281, 3)), (119, (.aload_n 0, 1)), (120, (.lload 7, 2)), (122, (.aload_n 0, 1)), (123, (.getfield 285, 3)), (126, (.lmul, 1)), (127, (.putfield 285, 3))], [(130, (.aload_n 0, 1)), (131, (.iload 4, 2)), (133, (.invokevirtual 321, 3)), (136, (.lreturn, 1))]]
set_option maxRecDepth 100000 in
def pmc_225 : pm_T (Instr × Nat) := [[(0, (.aload_n 0, 1)), (1, (.iload_n 1, 1)), (2, (.iload_n 2, 1)), (3, (.invokestatic 270, 3)), (6, (.ifCond .eq 35, 3)), (9, (.iload_n 3, 1)), (10, (.iconst 0, 1)), (11, (.iconst 3, 1)), (12, (.invokestatic 253, 3)), (15, (.ifCond .eq 26, 3))], [(18, (.aload_n 0, 1)), (19, (.iload_n 1, 1)), (20, (.iload_n 2, 1)), (21, (.iload_n 3, 1)), (22, (.iconst 2, 1)), (23, (.if_icmp .ge 7, 3)), (26, (.iconst (-1), 1)), (27, (.goto 4, 3)), (30, (.iconst 1, 1)), (31, (.invokevirtual 329, 3))], [(34, (.ifCond .eq 7, 3)), (37, (.iconst 0, 1)), (38, (.goto 4, 3)), (41, (.iconst 1, 1)), (42, (.putfield 1, 3)), (45, (.aload_n 0, 1)), (46, (.getfield 1, 3))], [(49, (.ifCond .le 7, 3)), (52, (.lconst 0, 1)), (53, (.goto 10, 3)), (56, (.aload_n 0, 1)), (57, (.iload_n 3, 1)), (58, (.iconst 2, 1)), (59, (.irem, 1)), (60, (.invokevirtual 321, 3)), (63, (.lreturn, 1))]]
set_option maxRecDepth 100000 in
def pmc_226 : pm_T (Instr × Nat) := [[(0, (.aload_n 0, 1)), (1, (.invokevirtual 304, 3)), (4, (.iconst 0, 1)), (5, (.istore 4, 2)), (7, (.iload 4, 2)), (9, (.bipush 24, 2)), (11, (.if_icmp .ge 63, 3)), (14, (.aload_n 0, 1)), (15, (.getfield 93, 3))], [(18, (.iload 4, 2)), (20, (.baload, 1)), (21, (.ifCond .eq 47, 3)), (24, (.aload_n 0, 1)), (25, (.aload_n 0, 1)), (26, (.getfield 97, 3)), (29, (.iload 4, 2)), (31, (.iaload, 1))], [(32, (.ifCond .ne 7, 3)), (35, (.iconst 1, 1)), (36, (.goto 4, 3)), (39, (.iconst 0, 1)), (40, (.aload_n 0, 1)), (41, (.iload 4, 2)), (43, (.iload_n 1, 1)), (44, (.iload_n 2, 1)), (45, (.aload_n 0, 1)), (46, (.getfield 97, 3))], [(49, (.iload 4, 2)), (51, (.iaload, 1)), (52, (.ifCond .ne 7, 3)), (55, (.iload_n 3, 1)), (56, (.goto 5, 3)), (59, (.iload_n 3, 1)), (60, (.ineg, 1)), (61, (.invokevirtual 325, 3))], [(64, (.i2l, 1)), (65, (.invokevirtual 307, 3)), (68, (.iinc 4 1, 3)), (71, (.goto (-64), 3)), (74, (.aload_n 0, 1)), (75, (.invokevirtual 311, 3)), (78, (.ireturn, 1))]]
set_option maxRecDepth 100000 in
def pmc_227 : pm_T (Instr × Nat) := [[(0, (.iconst 0, 1)), (1, (.istore 5, 2)), (3, (.aload_n 0, 1)), (4, (.getfield 115, 3)), (7, (.bipush 12, 2)), (9, (.iload_n 1, 1)), (10, (.imul, 1)), (11, (.iload_n 3, 1)), (12, (.iadd, 1)), (13, (.iaload, 1)), (14, (.ifCond .ne 29, 3))], [(17, (.iload 5, 2)), (19, (.iload 4, 2)), (21, (.ifCond .le 15, 3)), (24, (.bipush 10, 2)), (26, (.aload_n 0, 1)), (27, (.getfield 103, 3)), (30, (.iload_n 1, 1)), (31, (.iaload, 1))], [(32, (.imul, 1)), (33, (.goto 4, 3)), (36, (.iconst 0, 1)), (37, (.iadd, 1)), (38, (.istore 5, 2)), (40, (.goto 14, 3)), (43, (.iload 5, 2)), (45, (.aload_n 0, 1)), (46, (.iload_n 1, 1)), (47, (.iload_n 3, 1))], [(48, (.invokevirtual 267, 3)), (51, (.iadd, 1)), (52, (.istore 5, 2)), (54, (.aload_n 0, 1)), (55, (.getfield 115, 3)), (58, (.bipush 12, 2)), (60, (.iload_n 1, 1)), (61, (.imul, 1)), (62, (.iload_n 2, 1)), (63, (.iadd, 1))], [(64, (.iaload, 1)), (65, (.ifCond .ne 29, 3)), (68, (.iload 5, 2)), (70, (.iload 4, 2)), (72, (.ifCond .le 7, 3)), (75, (.iconst 0, 1)), (76, (.goto 12, 3)), (79, (.bipush 10, 2))], [(81, (.aload_n 0, 1)), (82, (.getfield 103, 3)), (85, (.iload_n 1, 1)), (86, (.iaload, 1)), (87, (.imul, 1)), (88, (.isub, 1)), (89, (.istore 5, 2)), (91, (.goto 14, 3)), (94, (.iload 5, 2))], [(96, (.aload_n 0, 1)), (97, (.iload_n 1, 1)), (98, (.iload_n 2, 1)), (99, (.invokevirtual 267, 3)), (102, (.isub, 1)), (103, (.istore 5, 2)), (105, (.iload 5, 2)), (107, (.ireturn, 1))]]
set_option maxRecDepth 100000 in
def pmc_228 : pm_T (Instr × Nat) := [[(0, (.aload_n 0, 1)), (1, (.iconst 0, 1)), (2, (.putfield 1, 3)), (5, (.iload_n 1, 1)), (6, (.iload_n 2, 1)), (7, (.invokestatic 270, 3)), (10, (.ifCond .eq 13, 3)), (13, (.aload_n 0, 1)), (14, (.iload_n 1, 1)), (15, (.iload_n 2, 1))], [(16, (.iconst (-1), 1)), (17, (.invokevirtual 329, 3)), (20, (.ifCond .ne 5, 3)), (23, (.iconst (-1), 1)), (24, (.ireturn, 1)), (25, (.aload_n 0, 1)), (26, (.getfield 281, 3)), (29, (.lconst 0, 1)), (30, (.lcmp, 1)), (31, (.ifCond .gt 7, 3))], [(34, (.iconst 1, 1)), (35, (.goto 4, 3)), (38, (.iconst 0, 1)), (39, (.istore_n 3, 1)), (40, (.aload_n 0, 1)), (41, (.iload_n 1, 1)), (42, (.iload_n 2, 1)), (43, (.iconst 1, 1)), (44, (.invokevirtual 329, 3)), (47, (.pop, 1))], [(48, (.iload_n 3, 1)), (49, (.ifCond .eq 16, 3)), (52, (.aload_n 0, 1)), (53, (.getfield 281, 3)), (56, (.lconst 0, 1)), (57, (.lcmp, 1)), (58, (.ifCond .lt 7, 3)), (61, (.iconst 1, 1)), (62, (.goto 4, 3))], [(65, (.iconst 0, 1)), (66, (.ireturn, 1))]]
set_option maxRecDepth 100000 in
def pmc_229 : pm_T (Instr × Nat) := [[(0, (.aload_n 0, 1)), (1, (.iconst 0, 1)), (2, (.putfield 1, 3)), (5, (.iload_n 1, 1)), (6, (.iload_n 2, 1)), (7, (.invokestatic 270, 3)), (10, (.ifCond .eq 13, 3)), (13, (.aload_n 0, 1)), (14, (.iload_n 1, 1)), (15, (.iload_n 2, 1))], [(16, (.iconst 1, 1)), (17, (.invokevirtual 329, 3)), (20, (.ifCond .ne 5, 3)), (23, (.iconst (-1), 1)), (24, (.ireturn, 1)), (25, (.iconst (-1), 1)), (26, (.istore_n 3, 1)), (27, (.lconst 0, 1)), (28, (.lstore 4, 2)), (30, (.lconst 1, 1)), (31, (.lstore 6, 2))], [(33, (.iconst 0, 1)), (34, (.istore 8, 2)), (36, (.iload 8, 2)), (38, (.bipush 24, 2)), (40, (.if_icmp .ge 139, 3)), (43, (.aload_n 0, 1)), (44, (.getfield 93, 3)), (47, (.iload 8, 2))], [(49, (.baload, 1)), (50, (.ifCond .eq 123, 3)), (53, (.aload_n 0, 1)), (54, (.iload 8, 2)), (56, (.iload_n 1, 1)), (57, (.iload_n 2, 1)), (58, (.invokevirtual 274, 3)), (61, (.ifCond .ne 112, 3))], [(64, (.aload_n 0, 1)), (65, (.getfield 115, 3)), (68, (.bipush 12, 2)), (70, (.iload 8, 2)), (72, (.imul, 1)), (73, (.iload_n 1, 1)), (74, (.iadd, 1)), (75, (.iaload, 1)), (76, (.ifCond .ne 7, 3)), (79, (.iconst 1, 1))], [(80, (.goto 4, 3)), (83, (.iconst 0, 1)), (84, (.aload_n 0, 1)), (85, (.getfield 115, 3)), (88, (.bipush 12, 2)), (90, (.iload 8, 2)), (92, (.imul, 1)), (93, (.iload_n 2, 1)), (94, (.iadd, 1)), (95, (.iaload, 1))], [(96, (.ifCond .ne 7, 3)), (99, (.iconst 1, 1)), (100, (.goto 4, 3)), (103, (.iconst 0, 1)), (104, (.iadd, 1)), (105, (.istore 9, 2)), (107, (.aload_n 0, 1)), (108, (.getfield 103, 3)), (111, (.iload 8, 2))], [(113, (.iaload, 1)), (114, (.i2l, 1)), (115, (.iload 9, 2)), (117, (.i2l, 1)), (118, (.lmul, 1)), (119, (.lstore 10, 2)), (121, (.aload_n 0, 1)), (122, (.getfield 97, 3)), (125, (.iload 8, 2)), (127, (.iaload, 1))], [(128, (.ifCond .ne 10, 3)), (131, (.aload_n 0, 1)), (132, (.getfield 295, 3)), (135, (.goto 7, 3)), (138, (.aload_n 0, 1)), (139, (.getfield 301, 3)), (142, (.lstore 12, 2))], [(144, (.iload_n 3, 1)), (145, (.ifCond .lt 17, 3)), (148, (.lload 10, 2)), (150, (.lload 6, 2)), (152, (.lmul, 1)), (153, (.lload 4, 2)), (155, (.lload 12, 2)), (157, (.lmul, 1)), (158, (.lcmp, 1)), (159, (.ifCond .le 14, 3))], [(162, (.iload 8, 2)), (164, (.istore_n 3, 1)), (165, (.lload 10, 2)), (167, (.lstore 4, 2)), (169, (.lload 12, 2)), (171, (.lstore 6, 2)), (173, (.iinc 8 1, 3))], [(176, (.goto (-140), 3)), (179, (.iload_n 3, 1)), (180, (.ireturn, 1))]]
set_option maxRecDepth 100000 in
def pmc_230 : pm_T (Instr × Nat) := [[(0, (.aload_n 0, 1)), (1, (.iload_n 1, 1)), (2, (.iload_n 2, 1)), (3, (.invokestatic 270, 3)), (6, (.ifCond .eq 15, 3)), (9, (.iload 4, 2)), (11, (.invokestatic 315, 3)), (14, (.ifCond .eq 7, 3))], [(17, (.iconst 0, 1)), (18, (.goto 4, 3)), (21, (.iconst 1, 1)), (22, (.putfield 1, 3)), (25, (.aload_n 0, 1)), (26, (.getfield 1, 3)), (29, (.ifCond .le 5, 3))], [(32, (.lconst 0, 1)), (33, (.lreturn, 1)), (34, (.aload_n 0, 1)), (35, (.invokevirtual 304, 3)), (38, (.iconst 0, 1)), (39, (.istore 5, 2)), (41, (.iload 5, 2)), (43, (.bipush 24, 2)), (45, (.if_icmp .ge 130, 3))], [(48, (.bipush 12, 2)), (50, (.iload 5, 2)), (52, (.imul, 1)), (53, (.iload_n 1, 1)), (54, (.iadd, 1)), (55, (.istore 6, 2)), (57, (.bipush 12, 2)), (59, (.iload 5, 2)), (61, (.imul, 1)), (62, (.iload_n 2, 1)), (63, (.iadd, 1))], [(64, (.istore 7, 2)), (66, (.aload_n 0, 1)), (67, (.getfield 93, 3)), (70, (.iload 5, 2)), (72, (.baload, 1)), (73, (.ifCond .eq 96, 3)), (76, (.iload_n 3, 1)), (77, (.ifCond .eq 13, 3))], [(80, (.aload_n 0, 1)), (81, (.getfield 106, 3)), (84, (.iload 5, 2)), (86, (.baload, 1)), (87, (.ifCond .eq 82, 3)), (90, (.aload_n 0, 1)), (91, (.getfield 124, 3)), (94, (.iload 6, 2))], [(96, (.iaload, 1)), (97, (.iconst 1, 1)), (98, (.if_icmp .ne 71, 3)), (101, (.aload_n 0, 1)), (102, (.getfield 124, 3)), (105, (.iload 7, 2)), (107, (.iaload, 1)), (108, (.iconst 1, 1)), (109, (.if_icmp .ne 60, 3))], [(112, (.aload_n 0, 1)), (113, (.aload_n 0, 1)), (114, (.getfield 97, 3)), (117, (.iload 5, 2)), (119, (.iaload, 1)), (120, (.ifCond .ne 7, 3)), (123, (.iconst 1, 1)), (124, (.goto 4, 3)), (127, (.iconst 0, 1))], [(128, (.aload_n 0, 1)), (129, (.aload_n 0, 1)), (130, (.getfield 127, 3)), (133, (.iload 7, 2)), (135, (.iaload, 1)), (136, (.aload_n 0, 1)), (137, (.getfield 130, 3)), (140, (.iload 7, 2)), (142, (.iaload, 1)), (143, (.invokevirtual 263, 3))], [(146, (.aload_n 0, 1)), (147, (.aload_n 0, 1)), (148, (.getfield 127, 3)), (151, (.iload 6, 2)), (153, (.iaload, 1)), (154, (.aload_n 0, 1)), (155, (.getfield 130, 3)), (158, (.iload 6, 2))], [(160, (.iaload, 1)), (161, (.invokevirtual 263, 3)), (164, (.isub, 1)), (165, (.i2l, 1)), (166, (.invokevirtual 307, 3)), (169, (.iinc 5 1, 3)), (172, (.goto (-131), 3)), (175, (.aload_n 0, 1))], [(176, (.aload_n 0, 1)), (177, (.invokevirtual 311, 3)), (180, (.ifCond .eq 7, 3)), (183, (.iconst 0, 1)), (184, (.goto 4, 3)), (187, (.iconst 1, 1)), (188, (.putfield 1, 3)), (191, (.aload_n 0, 1))], [(192, (.getfield 1, 3)), (195, (.ifCond .le 7, 3)), (198, (.lconst 0, 1)), (199, (.goto 9, 3)), (202, (.aload_n 0, 1)), (203, (.iload 4, 2)), (205, (.invokevirtual 321, 3))], [(208, (.lreturn, 1))]]
set_option maxRecDepth 100000 in
def pmc_231 : pm_T (Instr × Nat) := [[(0, (.aload_n 0, 1)), (1, (.iload_n 1, 1)), (2, (.iload_n 2, 1)), (3, (.invokestatic 270, 3)), (6, (.ifCond .eq 27, 3)), (9, (.iload_n 3, 1)), (10, (.iconst 1, 1)), (11, (.bipush 12, 2)), (13, (.invokestatic 253, 3))], [(16, (.ifCond .eq 17, 3)), (19, (.iload 4, 2)), (21, (.iconst 0, 1)), (22, (.iconst 3, 1)), (23, (.invokestatic 253, 3)), (26, (.ifCond .eq 7, 3)), (29, (.iconst 0, 1)), (30, (.goto 4, 3))], [(33, (.iconst 1, 1)), (34, (.putfield 1, 3)), (37, (.aload_n 0, 1)), (38, (.getfield 1, 3)), (41, (.ifCond .le 5, 3)), (44, (.lconst 0, 1)), (45, (.lreturn, 1)), (46, (.aload_n 0, 1)), (47, (.iload_n 1, 1))], [(48, (.iload_n 2, 1)), (49, (.iconst (-1), 1)), (50, (.invokevirtual 318, 3)), (53, (.pop, 1)), (54, (.aload_n 0, 1)), (55, (.aload_n 0, 1)), (56, (.getfield 295, 3)), (59, (.iload_n 3, 1)), (60, (.i2l, 1)), (61, (.lcmp, 1)), (62, (.ifCond .lt 13, 3))], [(65, (.aload_n 0, 1)), (66, (.getfield 301, 3)), (69, (.iload_n 3, 1)), (70, (.i2l, 1)), (71, (.lcmp, 1)), (72, (.ifCond .ge 7, 3)), (75, (.iconst 1, 1)), (76, (.goto 4, 3)), (79, (.iconst 0, 1))], [(80, (.putfield 1, 3)), (83, (.aload_n 0, 1)), (84, (.getfield 1, 3)), (87, (.ifCond .le 5, 3)), (90, (.lconst 0, 1)), (91, (.lreturn, 1)), (92, (.iload 4, 2)), (94, (.iconst 2, 1)), (95, (.if_icmp .ge 7, 3))], [(98, (.iconst 1, 1)), (99, (.goto 4, 3)), (102, (.iconst (-1), 1)), (103, (.istore 5, 2)), (105, (.aload_n 0, 1)), (106, (.aload_n 0, 1)), (107, (.iconst 0, 1)), (108, (.iload_n 1, 1)), (109, (.iload_n 2, 1)), (110, (.iload_n 3, 1)), (111, (.iload 5, 2))], [(113, (.invokevirtual 332, 3)), (116, (.aload_n 0, 1)), (117, (.iconst 1, 1)), (118, (.iload_n 1, 1)), (119, (.iload_n 2, 1)), (120, (.iload_n 3, 1)), (121, (.iload 5, 2)), (123, (.ineg, 1)), (124, (.invokevirtual 332, 3)), (127, (.lsub, 1))], [(128, (.putfield 281, 3)), (131, (.aload_n 0, 1)), (132, (.iload_n 3, 1)), (133, (.i2l, 1)), (134, (.putfield 285, 3)), (137, (.aload_n 0, 1)), (138, (.iload 4, 2)), (140, (.iconst 2, 1)), (141, (.irem, 1)), (142, (.invokevirtual 321, 3))], [(145, (.lreturn, 1))]]
set_option maxRecDepth 100000 in
def pmc_232 : pm_T (Instr × Nat) := [[(0, (.iconst 0, 1)), (1, (.istore 6, 2)), (3, (.iconst 0, 1)), (4, (.istore 7, 2)), (6, (.iload 7, 2)), (8, (.bipush 24, 2)), (10, (.if_icmp .ge 101, 3)), (13, (.aload_n 0, 1)), (14, (.iload 7, 2))], [(16, (.iload_n 2, 1)), (17, (.iload_n 3, 1)), (18, (.invokevirtual 274, 3)), (21, (.ifCond .eq 84, 3)), (24, (.aload_n 0, 1)), (25, (.getfield 97, 3)), (28, (.iload 7, 2)), (30, (.iaload, 1)), (31, (.iload_n 1, 1))], [(32, (.if_icmp .ne 73, 3)), (35, (.iload 5, 2)), (37, (.aload_n 0, 1)), (38, (.iload 7, 2)), (40, (.iload_n 2, 1)), (41, (.iload_n 3, 1)), (42, (.invokevirtual 277, 3)), (45, (.imul, 1)), (46, (.istore 8, 2))], [(48, (.iload 6, 2)), (50, (.istore 9, 2)), (52, (.iload 9, 2)), (54, (.ifCond .le 39, 3)), (57, (.aload_n 0, 1)), (58, (.getfield 133, 3)), (61, (.iload 9, 2)), (63, (.iconst 1, 1))], [(64, (.isub, 1)), (65, (.iaload, 1)), (66, (.iload 8, 2)), (68, (.if_icmp .le 25, 3)), (71, (.aload_n 0, 1)), (72, (.getfield 133, 3)), (75, (.iload 9, 2)), (77, (.aload_n 0, 1)), (78, (.getfield 133, 3))], [(81, (.iload 9, 2)), (83, (.iconst 1, 1)), (84, (.isub, 1)), (85, (.iaload, 1)), (86, (.iastore, 1)), (87, (.iinc 9 (-1), 3)), (90, (.goto (-38), 3)), (93, (.aload_n 0, 1)), (94, (.getfield 133, 3))], [(97, (.iload 9, 2)), (99, (.iload 8, 2)), (101, (.iastore, 1)), (102, (.iinc 6 1, 3)), (105, (.iinc 7 1, 3)), (108, (.goto (-102), 3)), (111, (.lconst 0, 1))], [(112, (.lstore 7, 2)), (114, (.iconst 0, 1)), (115, (.istore 9, 2)), (117, (.iload 9, 2)), (119, (.iload 4, 2)), (121, (.if_icmp .ge 29, 3)), (124, (.iload 9, 2)), (126, (.iload 6, 2))], [(128, (.if_icmp .ge 22, 3)), (131, (.lload 7, 2)), (133, (.aload_n 0, 1)), (134, (.getfield 133, 3)), (137, (.iload 9, 2)), (139, (.iaload, 1)), (140, (.i2l, 1)), (141, (.ladd, 1)), (142, (.lstore 7, 2))], [(144, (.iinc 9 1, 3)), (147, (.goto (-30), 3)), (150, (.iload 5, 2)), (152, (.i2l, 1)), (153, (.lload 7, 2)), (155, (.lmul, 1)), (156, (.lreturn, 1))]]
set_option maxRecDepth 100000 in
def pmc_233 : pm_T (Instr × Nat) := [[(0, (.aload_n 0, 1)), (1, (.iconst 0, 1)), (2, (.putfield 1, 3)), (5, (.iload_n 1, 1)), (6, (.iload_n 2, 1)), (7, (.invokestatic 270, 3)), (10, (.ifCond .eq 36, 3)), (13, (.iload_n 3, 1)), (14, (.invokestatic 315, 3))], [(17, (.ifCond .eq 29, 3)), (20, (.aload_n 0, 1)), (21, (.iload_n 1, 1)), (22, (.iload_n 2, 1)), (23, (.iconst (-1), 1)), (24, (.invokevirtual 318, 3)), (27, (.ifCond .eq 19, 3)), (30, (.aload_n 0, 1)), (31, (.getfield 295, 3))], [(34, (.aload_n 0, 1)), (35, (.getfield 301, 3)), (38, (.ladd, 1)), (39, (.ldc2_w 336, 3)), (42, (.lcmp, 1)), (43, (.ifCond .le 7, 3)), (46, (.ldc2_w 338, 3))], [(49, (.lreturn, 1)), (50, (.aload_n 0, 1)), (51, (.getfield 281, 3)), (54, (.lconst 0, 1)), (55, (.lcmp, 1)), (56, (.ifCond .ge 11, 3)), (59, (.aload_n 0, 1)), (60, (.getfield 281, 3)), (63, (.lneg, 1))], [(64, (.goto 7, 3)), (67, (.aload_n 0, 1)), (68, (.getfield 281, 3)), (71, (.lstore 4, 2)), (73, (.aload_n 0, 1)), (74, (.getfield 295, 3)), (77, (.lstore 6, 2)), (79, (.aload_n 0, 1))], [(80, (.getfield 301, 3)), (83, (.lstore 8, 2)), (85, (.aload_n 0, 1)), (86, (.getfield 292, 3)), (89, (.aload_n 0, 1)), (90, (.getfield 298, 3)), (93, (.ladd, 1)), (94, (.lstore 10, 2))], [(96, (.iconst 0, 1)), (97, (.istore 12, 2)), (99, (.iconst 0, 1)), (100, (.istore 13, 2)), (102, (.iload 13, 2)), (104, (.bipush 24, 2)), (106, (.if_icmp .ge 38, 3)), (109, (.aload_n 0, 1)), (110, (.iload 13, 2))], [(112, (.iload_n 1, 1)), (113, (.iload_n 2, 1)), (114, (.invokevirtual 274, 3)), (117, (.ifCond .eq 21, 3)), (120, (.aload_n 0, 1)), (121, (.getfield 133, 3)), (124, (.iload 12, 2)), (126, (.aload_n 0, 1)), (127, (.iload 13, 2))], [(129, (.iload_n 1, 1)), (130, (.iload_n 2, 1)), (131, (.invokevirtual 277, 3)), (134, (.iastore, 1)), (135, (.iinc 12 1, 3)), (138, (.iinc 13 1, 3)), (141, (.goto (-39), 3))], [(144, (.lconst 0, 1)), (145, (.lstore 13, 2)), (147, (.lconst 0, 1)), (148, (.lstore 15, 2)), (150, (.iconst 0, 1)), (151, (.istore 17, 2)), (153, (.iload 17, 2)), (155, (.iconst 1, 1)), (156, (.iload 12, 2)), (158, (.ishl, 1)), (159, (.if_icmp .ge 129, 3))], [(162, (.iconst 0, 1)), (163, (.istore 18, 2)), (165, (.lconst 0, 1)), (166, (.lstore 19, 2)), (168, (.iconst 0, 1)), (169, (.istore 21, 2)), (171, (.iload 21, 2)), (173, (.iload 12, 2)), (175, (.if_icmp .ge 49, 3))], [(178, (.iload 18, 2)), (180, (.iload 17, 2)), (182, (.iload 21, 2)), (184, (.ishr, 1)), (185, (.iconst 1, 1)), (186, (.iand, 1)), (187, (.iadd, 1)), (188, (.istore 18, 2)), (190, (.lload 19, 2))], [(192, (.iload 17, 2)), (194, (.iload 21, 2)), (196, (.ishr, 1)), (197, (.iconst 1, 1)), (198, (.iand, 1)), (199, (.iconst 1, 1)), (200, (.if_icmp .ne 14, 3)), (203, (.aload_n 0, 1)), (204, (.getfield 133, 3)), (207, (.iload 21, 2))], [(209, (.iaload, 1)), (210, (.i2l, 1)), (211, (.goto 4, 3)), (214, (.lconst 0, 1)), (215, (.ladd, 1)), (216, (.lstore 19, 2)), (218, (.iinc 21 1, 3)), (221, (.goto (-50), 3))], [(224, (.iload 18, 2)), (226, (.i2l, 1)), (227, (.lload 6, 2)), (229, (.lcmp, 1)), (230, (.ifCond .ne 52, 3)), (233, (.lload 19, 2)), (235, (.lload 8, 2)), (237, (.lmul, 1)), (238, (.lload 10, 2))], [(240, (.lload 19, 2)), (242, (.lsub, 1)), (243, (.lload 6, 2)), (245, (.lmul, 1)), (246, (.lsub, 1)), (247, (.lstore 21, 2)), (249, (.lload 15, 2)), (251, (.lconst 1, 1)), (252, (.ladd, 1)), (253, (.lstore 15, 2)), (255, (.lload 13, 2))], [(257, (.lload 21, 2)), (259, (.lload 4, 2)), (261, (.lcmp, 1)), (262, (.ifCond .ge 12, 3)), (265, (.lload 21, 2)), (267, (.lneg, 1)), (268, (.lload 4, 2)), (270, (.lcmp, 1)), (271, (.ifCond .lt 7, 3))], [(274, (.lconst 1, 1)), (275, (.goto 4, 3)), (278, (.lconst 0, 1)), (279, (.ladd, 1)), (280, (.lstore 13, 2)), (282, (.iinc 17 1, 3)), (285, (.goto (-132), 3))], [(288, (.aload_n 0, 1)), (289, (.lload 13, 2)), (291, (.putfield 281, 3)), (294, (.aload_n 0, 1)), (295, (.lload 15, 2)), (297, (.putfield 285, 3)), (300, (.aload_n 0, 1)), (301, (.iload_n 3, 1)), (302, (.invokevirtual 321, 3))], [(305, (.lreturn, 1))]]
set_option maxRecDepth 100000 in
def pmc_234 : pm_T (Instr × Nat) := [[(0, (.aload_n 0, 1)), (1, (.iload_n 1, 1)), (2, (.iload_n 2, 1)), (3, (.invokestatic 270, 3)), (6, (.ifCond .eq 14, 3)), (9, (.iload_n 3, 1)), (10, (.invokestatic 315, 3)), (13, (.ifCond .eq 7, 3))], [(16, (.iconst 0, 1)), (17, (.goto 4, 3)), (20, (.iconst 1, 1)), (21, (.putfield 1, 3)), (24, (.aload_n 0, 1)), (25, (.getfield 1, 3)), (28, (.ifCond .le 5, 3)), (31, (.lconst 0, 1))], [(32, (.lreturn, 1)), (33, (.aload_n 0, 1)), (34, (.invokevirtual 304, 3)), (37, (.iconst 0, 1)), (38, (.istore 4, 2)), (40, (.iload 4, 2)), (42, (.bipush 24, 2)), (44, (.if_icmp .ge 64, 3)), (47, (.aload_n 0, 1))], [(48, (.iload 4, 2)), (50, (.iload_n 1, 1)), (51, (.iload_n 2, 1)), (52, (.invokevirtual 274, 3)), (55, (.ifCond .eq 47, 3)), (58, (.aload_n 0, 1)), (59, (.getfield 97, 3)), (62, (.iload 4, 2))], [(64, (.iaload, 1)), (65, (.ifCond .ne 37, 3)), (68, (.aload_n 0, 1)), (69, (.aload_n 0, 1)), (70, (.getfield 100, 3)), (73, (.iload 4, 2)), (75, (.iaload, 1)), (76, (.aload_n 0, 1)), (77, (.getfield 109, 3))], [(80, (.iload_n 2, 1)), (81, (.iaload, 1)), (82, (.if_icmp .ge 7, 3)), (85, (.iconst 1, 1)), (86, (.goto 4, 3)), (89, (.iconst 0, 1)), (90, (.aload_n 0, 1)), (91, (.iload 4, 2)), (93, (.iload_n 1, 1)), (94, (.iload_n 2, 1)), (95, (.invokevirtual 277, 3))], [(98, (.i2l, 1)), (99, (.invokevirtual 307, 3)), (102, (.iinc 4 1, 3)), (105, (.goto (-65), 3)), (108, (.aload_n 0, 1)), (109, (.aload_n 0, 1)), (110, (.invokevirtual 311, 3))], [(113, (.ifCond .eq 7, 3)), (116, (.iconst 0, 1)), (117, (.goto 4, 3)), (120, (.iconst 1, 1)), (121, (.putfield 1, 3)), (124, (.aload_n 0, 1)), (125, (.getfield 1, 3))], [(128, (.ifCond .le 7, 3)), (131, (.lconst 0, 1)), (132, (.goto 8, 3)), (135, (.aload_n 0, 1)), (136, (.iload_n 3, 1)), (137, (.invokevirtual 321, 3)), (140, (.lreturn, 1))]]
set_option maxRecDepth 100000 in
def pmc_235 : pm_T (Instr × Nat) := [[(0, (.aload_n 0, 1)), (1, (.iconst 0, 1)), (2, (.putfield 1, 3)), (5, (.iload_n 1, 1)), (6, (.iconst 1, 1)), (7, (.bipush 11, 2)), (9, (.invokestatic 253, 3)), (12, (.ifCond .eq 12, 3)), (15, (.iload_n 2, 1))], [(16, (.iconst 0, 1)), (17, (.iconst 2, 1)), (18, (.invokestatic 253, 3)), (21, (.ifCond .ne 7, 3)), (24, (.ldc2_w 338, 3)), (27, (.lreturn, 1)), (28, (.iconst 0, 1)), (29, (.istore_n 3, 1)), (30, (.lconst 0, 1)), (31, (.lstore 4, 2))], [(33, (.lconst 1, 1)), (34, (.lstore 6, 2)), (36, (.iconst 0, 1)), (37, (.istore 8, 2)), (39, (.iload 8, 2)), (41, (.iload_n 1, 1)), (42, (.if_icmp .ge 75, 3)), (45, (.aload_n 0, 1)), (46, (.iload 8, 2))], [(48, (.iload 8, 2)), (50, (.iconst 1, 1)), (51, (.iadd, 1)), (52, (.iconst (-1), 1)), (53, (.invokevirtual 318, 3)), (56, (.ifCond .eq 55, 3)), (59, (.iinc 3 1, 3)), (62, (.aload_n 0, 1)), (63, (.getfield 281, 3))], [(66, (.lconst 0, 1)), (67, (.lcmp, 1)), (68, (.ifCond .ge 11, 3)), (71, (.aload_n 0, 1)), (72, (.getfield 281, 3)), (75, (.lneg, 1)), (76, (.goto 7, 3)), (79, (.aload_n 0, 1))], [(80, (.getfield 281, 3)), (83, (.lstore 9, 2)), (85, (.lload 9, 2)), (87, (.lload 6, 2)), (89, (.lmul, 1)), (90, (.lload 4, 2)), (92, (.aload_n 0, 1)), (93, (.getfield 285, 3))], [(96, (.lmul, 1)), (97, (.lcmp, 1)), (98, (.ifCond .le 13, 3)), (101, (.lload 9, 2)), (103, (.lstore 4, 2)), (105, (.aload_n 0, 1)), (106, (.getfield 285, 3)), (109, (.lstore 6, 2)), (111, (.iinc 8 1, 3))], [(114, (.goto (-75), 3)), (117, (.aload_n 0, 1)), (118, (.lload 4, 2)), (120, (.putfield 281, 3)), (123, (.aload_n 0, 1)), (124, (.lload 6, 2)), (126, (.putfield 285, 3))], [(129, (.iload_n 2, 1)), (130, (.ifCond .ne 8, 3)), (133, (.iload_n 3, 1)), (134, (.i2l, 1)), (135, (.goto 20, 3)), (138, (.iload_n 3, 1)), (139, (.ifCond .ne 9, 3)), (142, (.ldc2_w 338, 3))], [(145, (.goto 10, 3)), (148, (.aload_n 0, 1)), (149, (.iload_n 2, 1)), (150, (.iconst 1, 1)), (151, (.isub, 1)), (152, (.invokevirtual 321, 3)), (155, (.lreturn, 1))]]
set_option maxRecDepth 100000 in
def pmc_236 : pm_T (Instr × Nat) := [[(0, (.aload_n 0, 1)), (1, (.iload_n 1, 1)), (2, (.iload_n 2, 1)), (3, (.invokestatic 270, 3)), (6, (.ifCond .eq 36, 3)), (9, (.iload_n 3, 1)), (10, (.bipush (-99), 2)), (12, (.bipush 99, 2)), (14, (.invokestatic 253, 3))], [(17, (.ifCond .eq 25, 3)), (20, (.iload 4, 2)), (22, (.invokestatic 315, 3)), (25, (.ifCond .eq 17, 3)), (28, (.aload_n 0, 1)), (29, (.iload_n 1, 1)), (30, (.iload_n 2, 1)), (31, (.iconst (-1), 1))], [(32, (.invokevirtual 318, 3)), (35, (.ifCond .eq 7, 3)), (38, (.iconst 0, 1)), (39, (.goto 4, 3)), (42, (.iconst 1, 1)), (43, (.putfield 1, 3)), (46, (.aload_n 0, 1)), (47, (.getfield 1, 3))], [(50, (.ifCond .le 5, 3)), (53, (.lconst 0, 1)), (54, (.lreturn, 1)), (55, (.aload_n 0, 1)), (56, (.dup, 1)), (57, (.getfield 281, 3)), (60, (.iload_n 3, 1)), (61, (.i2l, 1)), (62, (.iload_n 2, 1)), (63, (.iload_n 1, 1))], [(64, (.isub, 1)), (65, (.i2l, 1)), (66, (.lmul, 1)), (67, (.aload_n 0, 1)), (68, (.getfield 285, 3)), (71, (.lmul, 1)), (72, (.lsub, 1)), (73, (.putfield 281, 3)), (76, (.aload_n 0, 1)), (77, (.iload 4, 2)), (79, (.invokevirtual 321, 3))], [(82, (.lreturn, 1))]]
set_option maxRecDepth 100000 in
def pmc_237 : pm_T (Instr × Nat) := [[(0, (.aload_n 0, 1)), (1, (.iconst 0, 1)), (2, (.putfield 1, 3)), (5, (.iload_n 1, 1)), (6, (.iconst 0, 1)), (7, (.iconst 3, 1)), (8, (.invokestatic 253, 3)), (11, (.ifCond .ne 10, 3)), (14, (.aload_n 0, 1)), (15, (.iconst 0, 1))], [(16, (.putfield 11, 3)), (19, (.iconst (-1), 1)), (20, (.ireturn, 1)), (21, (.aload_n 0, 1)), (22, (.invokevirtual 343, 3)), (25, (.aload_n 0, 1)), (26, (.iconst 0, 1)), (27, (.putfield 340, 3)), (30, (.aload_n 0, 1)), (31, (.iconst 0, 1))], [(32, (.putfield 346, 3)), (35, (.iconst 0, 1)), (36, (.istore_n 2, 1)), (37, (.iload_n 2, 1)), (38, (.iconst 4, 1)), (39, (.if_icmp .ge 19, 3)), (42, (.aload_n 0, 1)), (43, (.getfield 136, 3)), (46, (.bipush 16, 2))], [(48, (.iload_n 2, 1)), (49, (.iadd, 1)), (50, (.iconst (-1), 1)), (51, (.iastore, 1)), (52, (.iinc 2 1, 3)), (55, (.goto (-18), 3)), (58, (.aload_n 0, 1)), (59, (.getfield 237, 3)), (62, (.ifCond .ne 22, 3))], [(65, (.aload_n 0, 1)), (66, (.getfield 24, 3)), (69, (.aload_n 0, 1)), (70, (.getfield 234, 3)), (73, (.iaload, 1)), (74, (.ifCond .eq 10, 3)), (77, (.aload_n 0, 1)), (78, (.invokevirtual 350, 3))], [(81, (.goto (-23), 3)), (84, (.aload_n 0, 1)), (85, (.getfield 237, 3)), (88, (.ifCond .le 8, 3)), (91, (.aload_n 0, 1)), (92, (.getfield 237, 3)), (95, (.ireturn, 1))], [(96, (.iconst 0, 1)), (97, (.istore_n 2, 1)), (98, (.iload_n 2, 1)), (99, (.iconst 4, 1)), (100, (.if_icmp .ge 28, 3)), (103, (.aload_n 0, 1)), (104, (.getfield 136, 3)), (107, (.iconst 4, 1)), (108, (.iload_n 1, 1)), (109, (.imul, 1)), (110, (.iload_n 2, 1)), (111, (.iadd, 1))], [(112, (.aload_n 0, 1)), (113, (.getfield 136, 3)), (116, (.bipush 16, 2)), (118, (.iload_n 2, 1)), (119, (.iadd, 1)), (120, (.iaload, 1)), (121, (.iastore, 1)), (122, (.iinc 2 1, 3)), (125, (.goto (-27), 3))], [(128, (.aload_n 0, 1)), (129, (.iload_n 1, 1)), (130, (.invokevirtual 353, 3)), (133, (.iconst 0, 1)), (134, (.ireturn, 1))]]
set_option maxRecDepth 100000 in
def pmc_238 : pm_T (Instr × Nat) := [[(0, (.aload_n 0, 1)), (1, (.aload_n 0, 1)), (2, (.getfield 11, 3)), (5, (.putfield 215, 3)), (8, (.aload_n 0, 1)), (9, (.iconst 0, 1)), (10, (.putfield 11, 3)), (13, (.iconst 0, 1)), (14, (.istore_n 1, 1)), (15, (.iconst 0, 1))], [(16, (.istore_n 2, 1)), (17, (.iload_n 2, 1)), (18, (.aload_n 0, 1)), (19, (.getfield 215, 3)), (22, (.if_icmp .ge 257, 3)), (25, (.aload_n 0, 1)), (26, (.getfield 14, 3)), (29, (.iload_n 2, 1)), (30, (.iaload, 1)), (31, (.istore_n 3, 1))], [(32, (.iload_n 3, 1)), (33, (.bipush 10, 2)), (35, (.if_icmp .eq 9, 3)), (38, (.iload_n 3, 1)), (39, (.bipush 32, 2)), (41, (.if_icmp .ne 9, 3)), (44, (.iinc 2 1, 3)), (47, (.goto (-30), 3))], [(50, (.iload_n 2, 1)), (51, (.istore 4, 2)), (53, (.lconst 0, 1)), (54, (.lstore 5, 2)), (56, (.aload_n 0, 1)), (57, (.getfield 27, 3)), (60, (.iload_n 1, 1)), (61, (.iload_n 2, 1)), (62, (.iastore, 1)), (63, (.iload_n 3, 1))], [(64, (.invokestatic 211, 3)), (67, (.ifCond .eq 85, 3)), (70, (.iload_n 2, 1)), (71, (.aload_n 0, 1)), (72, (.getfield 215, 3)), (75, (.if_icmp .ge 54, 3)), (78, (.aload_n 0, 1)), (79, (.getfield 14, 3))], [(82, (.iload_n 2, 1)), (83, (.iaload, 1)), (84, (.invokestatic 211, 3)), (87, (.ifCond .eq 42, 3)), (90, (.iload_n 2, 1)), (91, (.iload 4, 2)), (93, (.isub, 1)), (94, (.bipush 8, 2))], [(96, (.if_icmp .ge 23, 3)), (99, (.ldc2_w 218, 3)), (102, (.lload 5, 2)), (104, (.lmul, 1)), (105, (.aload_n 0, 1)), (106, (.getfield 14, 3)), (109, (.iload_n 2, 1)), (110, (.iaload, 1)), (111, (.invokestatic 220, 3))], [(114, (.i2l, 1)), (115, (.ladd, 1)), (116, (.goto 5, 3)), (119, (.lload 5, 2)), (121, (.lstore 5, 2)), (123, (.iinc 2 1, 3)), (126, (.goto (-56), 3))], [(129, (.aload_n 0, 1)), (130, (.getfield 24, 3)), (133, (.iload_n 1, 1)), (134, (.iload_n 2, 1)), (135, (.iload 4, 2)), (137, (.isub, 1)), (138, (.bipush 8, 2)), (140, (.if_icmp .le 7, 3)), (143, (.iconst 4, 1))], [(144, (.goto 4, 3)), (147, (.iconst 1, 1)), (148, (.iastore, 1)), (149, (.goto 116, 3)), (152, (.iload_n 3, 1)), (153, (.invokestatic 224, 3)), (156, (.ifCond .eq 84, 3)), (159, (.iload_n 2, 1))], [(160, (.aload_n 0, 1)), (161, (.getfield 215, 3)), (164, (.if_icmp .ge 54, 3)), (167, (.aload_n 0, 1)), (168, (.getfield 14, 3)), (171, (.iload_n 2, 1)), (172, (.iaload, 1)), (173, (.invokestatic 224, 3))], [(176, (.ifCond .eq 42, 3)), (179, (.iload_n 2, 1)), (180, (.iload 4, 2)), (182, (.isub, 1)), (183, (.iconst 4, 1)), (184, (.if_icmp .ge 24, 3)), (187, (.ldc2_w 227, 3)), (190, (.lload 5, 2))], [(192, (.lmul, 1)), (193, (.aload_n 0, 1)), (194, (.getfield 14, 3)), (197, (.iload_n 2, 1)), (198, (.iaload, 1)), (199, (.i2l, 1)), (200, (.ladd, 1)), (201, (.ldc2_w 229, 3)), (204, (.lsub, 1)), (205, (.goto 5, 3))], [(208, (.lload 5, 2)), (210, (.lstore 5, 2)), (212, (.iinc 2 1, 3)), (215, (.goto (-56), 3)), (218, (.aload_n 0, 1)), (219, (.getfield 24, 3)), (222, (.iload_n 1, 1)), (223, (.iload_n 2, 1))], [(224, (.iload 4, 2)), (226, (.isub, 1)), (227, (.iconst 4, 1)), (228, (.if_icmp .le 7, 3)), (231, (.iconst 4, 1)), (232, (.goto 4, 3)), (235, (.iconst 2, 1)), (236, (.iastore, 1)), (237, (.goto 28, 3))], [(240, (.iload_n 3, 1)), (241, (.i2l, 1)), (242, (.lstore 5, 2)), (244, (.aload_n 0, 1)), (245, (.getfield 24, 3)), (248, (.iload_n 1, 1)), (249, (.iload_n 3, 1)), (250, (.invokestatic 231, 3)), (253, (.ifCond .eq 7, 3))], [(256, (.iconst 3, 1)), (257, (.goto 4, 3)), (260, (.iconst 4, 1)), (261, (.iastore, 1)), (262, (.iinc 2 1, 3)), (265, (.aload_n 0, 1)), (266, (.getfield 30, 3)), (269, (.iload_n 1, 1)), (270, (.lload 5, 2))], [(272, (.lastore, 1)), (273, (.iinc 1 1, 3)), (276, (.goto (-259), 3)), (279, (.aload_n 0, 1)), (280, (.getfield 24, 3)), (283, (.iload_n 1, 1)), (284, (.iconst 0, 1)), (285, (.iastore, 1)), (286, (.aload_n 0, 1)), (287, (.getfield 27, 3))], [(290, (.iload_n 1, 1)), (291, (.aload_n 0, 1)), (292, (.getfield 215, 3)), (295, (.iastore, 1)), (296, (.aload_n 0, 1)), (297, (.iconst 0, 1)), (298, (.putfield 234, 3)), (301, (.aload_n 0, 1)), (302, (.iconst 0, 1)), (303, (.putfield 237, 3))], [(306, (.return_, 1))]]
set_option maxRecDepth 100000 in
def pmc_239 : pm_T (Instr × Nat) := [[(0, (.iload_n 0, 1)), (1, (.bipush 97, 2)), (3, (.if_icmp .lt 13, 3)), (6, (.iload_n 0, 1)), (7, (.bipush 122, 2)), (9, (.if_icmp .gt 7, 3)), (12, (.iconst 1, 1)), (13, (.goto 4, 3))], [(16, (.iconst 0, 1)), (17, (.ireturn, 1))]]
set_option maxRecDepth 100000 in
def pmc_240 : pm_T (Instr × Nat) := [[(0, (.iload_n 0, 1)), (1, (.invokestatic 211, 3)), (4, (.ifCond .eq 10, 3)), (7, (.iload_n 0, 1)), (8, (.bipush 96, 2)), (10, (.isub, 1)), (11, (.goto 7, 3)), (14, (.iload_n 0, 1)), (15, (.bipush 21, 2))], [(17, (.isub, 1)), (18, (.ireturn, 1))]]
set_option maxRecDepth 100000 in
def pmc_241 : pm_T (Instr × Nat) := [[(0, (.iload_n 0, 1)), (1, (.bipush 48, 2)), (3, (.if_icmp .lt 13, 3)), (6, (.iload_n 0, 1)), (7, (.bipush 57, 2)), (9, (.if_icmp .gt 7, 3)), (12, (.iconst 1, 1)), (13, (.goto 4, 3))], [(16, (.iconst 0, 1)), (17, (.ireturn, 1))]]
set_option maxRecDepth 100000 in
def pmc_242 : pm_T (Instr × Nat) := [[(0, (.iload_n 0, 1)), (1, (.bipush 40, 2)), (3, (.if_icmp .eq 45, 3)), (6, (.iload_n 0, 1)), (7, (.bipush 41, 2)), (9, (.if_icmp .eq 39, 3)), (12, (.iload_n 0, 1)), (13, (.bipush 59, 2)), (15, (.if_icmp .eq 33, 3))], [(18, (.iload_n 0, 1)), (19, (.bipush 61, 2)), (21, (.if_icmp .eq 27, 3)), (24, (.iload_n 0, 1)), (25, (.bipush 60, 2)), (27, (.if_icmp .eq 21, 3)), (30, (.iload_n 0, 1)), (31, (.bipush 43, 2))], [(33, (.if_icmp .eq 15, 3)), (36, (.iload_n 0, 1)), (37, (.bipush 45, 2)), (39, (.if_icmp .eq 9, 3)), (42, (.iload_n 0, 1)), (43, (.bipush 42, 2)), (45, (.if_icmp .ne 7, 3))], [(48, (.iconst 1, 1)), (49, (.goto 4, 3)), (52, (.iconst 0, 1)), (53, (.ireturn, 1))]]
set_option maxRecDepth 100000 in
def pmc_243 : pm_T (Instr × Nat) := [[(0, (.iconst (-1), 1)), (1, (.istore_n 1, 1)), (2, (.iconst 0, 1)), (3, (.istore_n 2, 1)), (4, (.iload_n 2, 1)), (5, (.iconst 3, 1)), (6, (.if_icmp .gt 23, 3)), (9, (.aload_n 0, 1)), (10, (.iload_n 2, 1)), (11, (.invokevirtual 247, 3)), (14, (.ifCond .eq 7, 3))], [(17, (.iload_n 2, 1)), (18, (.goto 4, 3)), (21, (.iload_n 1, 1)), (22, (.istore_n 1, 1)), (23, (.iinc 2 1, 3)), (26, (.goto (-22), 3)), (29, (.iload_n 1, 1)), (30, (.ifCond .ge 11, 3))], [(33, (.aload_n 0, 1)), (34, (.iconst 1, 1)), (35, (.invokevirtual 243, 3)), (38, (.goto 20, 3)), (41, (.aload_n 0, 1)), (42, (.getfield 136, 3)), (45, (.bipush 16, 2)), (47, (.iload_n 1, 1))], [(48, (.iadd, 1)), (49, (.iaload, 1)), (50, (.ifCond .lt 8, 3)), (53, (.aload_n 0, 1)), (54, (.iconst 3, 1)), (55, (.invokevirtual 243, 3)), (58, (.aload_n 0, 1)), (59, (.getfield 237, 3)), (62, (.ifCond .le 4, 3))], [(65, (.return_, 1)), (66, (.aload_n 0, 1)), (67, (.dup, 1)), (68, (.getfield 234, 3)), (71, (.iconst 1, 1)), (72, (.iadd, 1)), (73, (.putfield 234, 3)), (76, (.iload_n 1, 1)), (77, (.iconst 1, 1)), (78, (.if_icmp .le 8, 3))], [(81, (.aload_n 0, 1)), (82, (.iconst 4, 1)), (83, (.invokevirtual 356, 3)), (86, (.aload_n 0, 1)), (87, (.getfield 136, 3)), (90, (.bipush 16, 2)), (92, (.iload_n 1, 1)), (93, (.iadd, 1)), (94, (.aload_n 0, 1)), (95, (.getfield 340, 3))], [(98, (.iastore, 1)), (99, (.aload_n 0, 1)), (100, (.iconst 0, 1)), (101, (.invokevirtual 359, 3)), (104, (.aload_n 0, 1)), (105, (.iconst 0, 1)), (106, (.iconst 0, 1)), (107, (.invokevirtual 362, 3)), (110, (.aload_n 0, 1)), (111, (.bipush 59, 2))], [(113, (.invokevirtual 366, 3)), (116, (.return_, 1))]]
set_option maxRecDepth 100000 in
def pmc_244 : pm_T (Instr × Nat) := [[(0, (.aload_n 0, 1)), (1, (.getfield 237, 3)), (4, (.ifCond .ne 39, 3)), (7, (.aload_n 0, 1)), (8, (.getfield 24, 3)), (11, (.aload_n 0, 1)), (12, (.getfield 234, 3)), (15, (.iaload, 1))], [(16, (.iconst 1, 1)), (17, (.if_icmp .ne 26, 3)), (20, (.aload_n 0, 1)), (21, (.getfield 30, 3)), (24, (.aload_n 0, 1)), (25, (.getfield 234, 3)), (28, (.laload, 1)), (29, (.aload_n 0, 1)), (30, (.getfield 90, 3))], [(33, (.iload_n 1, 1)), (34, (.laload, 1)), (35, (.lcmp, 1)), (36, (.ifCond .ne 7, 3)), (39, (.iconst 1, 1)), (40, (.goto 4, 3)), (43, (.iconst 0, 1)), (44, (.ireturn, 1))]]
set_option maxRecDepth 100000 in
def pmc_245 : pm_T (Instr × Nat) := [[(0, (.aload_n 0, 1)), (1, (.getfield 237, 3)), (4, (.ifCond .ne 21, 3)), (7, (.aload_n 0, 1)), (8, (.iload_n 1, 1)), (9, (.bipush 16, 2)), (11, (.aload_n 0, 1)), (12, (.getfield 27, 3)), (15, (.aload_n 0, 1))], [(16, (.getfield 234, 3)), (19, (.iaload, 1)), (20, (.imul, 1)), (21, (.iadd, 1)), (22, (.putfield 237, 3)), (25, (.return_, 1))]]
set_option maxRecDepth 100000 in
def pmc_246 : pm_T (Instr × Nat) := [[(0, (.aload_n 0, 1)), (1, (.iload_n 1, 1)), (2, (.invokevirtual 250, 3)), (5, (.ifCond .ne 8, 3)), (8, (.aload_n 0, 1)), (9, (.iconst 1, 1)), (10, (.invokevirtual 243, 3)), (13, (.return_, 1))]]
set_option maxRecDepth 100000 in
def pmc_247 : pm_T (Instr × Nat) := [[(0, (.aload_n 0, 1)), (1, (.iload_n 1, 1)), (2, (.invokevirtual 247, 3)), (5, (.istore_n 2, 1)), (6, (.aload_n 0, 1)), (7, (.dup, 1)), (8, (.getfield 234, 3)), (11, (.iload_n 2, 1)), (12, (.ifCond .eq 7, 3)), (15, (.iconst 1, 1))], [(16, (.goto 4, 3)), (19, (.iconst 0, 1)), (20, (.iadd, 1)), (21, (.putfield 234, 3)), (24, (.iload_n 2, 1)), (25, (.ireturn, 1))]]
set_option maxRecDepth 100000 in
def pmc_248 : pm_T (Instr × Nat) := [[(0, (.aload_n 0, 1)), (1, (.iload_n 1, 1)), (2, (.invokevirtual 369, 3)), (5, (.aload_n 0, 1)), (6, (.iconst 5, 1)), (7, (.invokevirtual 247, 3)), (10, (.ifCond .ne 12, 3)), (13, (.aload_n 0, 1)), (14, (.bipush 6, 2))], [(16, (.invokevirtual 247, 3)), (19, (.ifCond .eq 43, 3)), (22, (.aload_n 0, 1)), (23, (.iconst 5, 1)), (24, (.invokevirtual 247, 3)), (27, (.istore_n 2, 1)), (28, (.aload_n 0, 1)), (29, (.dup, 1)), (30, (.getfield 234, 3))], [(33, (.iconst 1, 1)), (34, (.iadd, 1)), (35, (.putfield 234, 3)), (38, (.aload_n 0, 1)), (39, (.iload_n 1, 1)), (40, (.invokevirtual 369, 3)), (43, (.aload_n 0, 1)), (44, (.iload_n 2, 1)), (45, (.ifCond .eq 8, 3))], [(48, (.bipush 9, 2)), (50, (.goto 5, 3)), (53, (.bipush 10, 2)), (55, (.iconst 0, 1)), (56, (.invokevirtual 362, 3)), (59, (.goto (-54), 3)), (62, (.return_, 1))]]
set_option maxRecDepth 100000 in
def pmc_249 : pm_T (Instr × Nat) := [[(0, (.aload_n 0, 1)), (1, (.iload_n 1, 1)), (2, (.invokevirtual 372, 3)), (5, (.aload_n 0, 1)), (6, (.bipush 60, 2)), (8, (.invokevirtual 240, 3)), (11, (.istore_n 2, 1)), (12, (.aload_n 0, 1)), (13, (.bipush 60, 2)), (15, (.invokevirtual 375, 3))], [(18, (.ifCond .ne 12, 3)), (21, (.aload_n 0, 1)), (22, (.bipush 61, 2)), (24, (.invokevirtual 375, 3)), (27, (.ifCond .eq 24, 3)), (30, (.aload_n 0, 1)), (31, (.iload_n 1, 1))], [(32, (.invokevirtual 372, 3)), (35, (.aload_n 0, 1)), (36, (.iload_n 2, 1)), (37, (.ifCond .eq 8, 3)), (40, (.bipush 7, 2)), (42, (.goto 5, 3)), (45, (.bipush 8, 2)), (47, (.iconst 0, 1))], [(48, (.invokevirtual 362, 3)), (51, (.return_, 1))]]
set_option maxRecDepth 100000 in
def pmc_250 : pm_T (Instr × Nat) := [[(0, (.aload_n 0, 1)), (1, (.iload_n 1, 1)), (2, (.invokevirtual 378, 3)), (5, (.aload_n 0, 1)), (6, (.bipush 43, 2)), (8, (.invokevirtual 240, 3)), (11, (.ifCond .ne 12, 3)), (14, (.aload_n 0, 1)), (15, (.bipush 45, 2))], [(17, (.invokevirtual 240, 3)), (20, (.ifCond .eq 42, 3)), (23, (.aload_n 0, 1)), (24, (.bipush 43, 2)), (26, (.invokevirtual 240, 3)), (29, (.istore_n 2, 1)), (30, (.aload_n 0, 1)), (31, (.dup, 1))], [(32, (.getfield 234, 3)), (35, (.iconst 1, 1)), (36, (.iadd, 1)), (37, (.putfield 234, 3)), (40, (.aload_n 0, 1)), (41, (.iload_n 1, 1)), (42, (.invokevirtual 378, 3)), (45, (.aload_n 0, 1)), (46, (.iload_n 2, 1)), (47, (.ifCond .eq 7, 3))], [(50, (.iconst 4, 1)), (51, (.goto 4, 3)), (54, (.iconst 5, 1)), (55, (.iconst 0, 1)), (56, (.invokevirtual 362, 3)), (59, (.goto (-54), 3)), (62, (.return_, 1))]]
set_option maxRecDepth 100000 in
def pmc_251 : pm_T (Instr × Nat) := [[(0, (.aload_n 0, 1)), (1, (.iload_n 1, 1)), (2, (.invokevirtual 381, 3)), (5, (.aload_n 0, 1)), (6, (.bipush 42, 2)), (8, (.invokevirtual 375, 3)), (11, (.ifCond .eq 18, 3)), (14, (.aload_n 0, 1)), (15, (.iload_n 1, 1))], [(16, (.invokevirtual 381, 3)), (19, (.aload_n 0, 1)), (20, (.bipush 6, 2)), (22, (.iconst 0, 1)), (23, (.invokevirtual 362, 3)), (26, (.goto (-21), 3)), (29, (.return_, 1))]]
set_option maxRecDepth 100000 in
def pmc_252 : pm_T (Instr × Nat) := [[(0, (.aload_n 0, 1)), (1, (.getfield 237, 3)), (4, (.ifCond .le 4, 3)), (7, (.return_, 1)), (8, (.aload_n 0, 1)), (9, (.invokevirtual 384, 3)), (12, (.istore_n 2, 1)), (13, (.aload_n 0, 1)), (14, (.getfield 24, 3))], [(17, (.aload_n 0, 1)), (18, (.getfield 234, 3)), (21, (.iaload, 1)), (22, (.iconst 2, 1)), (23, (.if_icmp .ne 7, 3)), (26, (.iconst 1, 1)), (27, (.goto 4, 3)), (30, (.iconst 0, 1)), (31, (.istore_n 3, 1))], [(32, (.iload_n 2, 1)), (33, (.ifCond .ge 33, 3)), (36, (.iload_n 3, 1)), (37, (.ifCond .ne 29, 3)), (40, (.aload_n 0, 1)), (41, (.bipush 40, 2)), (43, (.invokevirtual 240, 3)), (46, (.ifCond .ne 20, 3))], [(49, (.aload_n 0, 1)), (50, (.bipush 7, 2)), (52, (.invokevirtual 247, 3)), (55, (.ifCond .ne 11, 3)), (58, (.aload_n 0, 1)), (59, (.iconst 1, 1)), (60, (.invokevirtual 243, 3)), (63, (.goto 13, 3))], [(66, (.iload_n 1, 1)), (67, (.iconst 5, 1)), (68, (.if_icmp .ne 8, 3)), (71, (.aload_n 0, 1)), (72, (.iconst 5, 1)), (73, (.invokevirtual 243, 3)), (76, (.aload_n 0, 1)), (77, (.getfield 237, 3))], [(80, (.ifCond .le 4, 3)), (83, (.return_, 1)), (84, (.aload_n 0, 1)), (85, (.bipush 7, 2)), (87, (.invokevirtual 250, 3)), (90, (.ifCond .eq 19, 3)), (93, (.aload_n 0, 1)), (94, (.iload_n 1, 1)), (95, (.iconst 1, 1))], [(96, (.iadd, 1)), (97, (.invokevirtual 381, 3)), (100, (.aload_n 0, 1)), (101, (.iconst 3, 1)), (102, (.iconst 0, 1)), (103, (.invokevirtual 362, 3)), (106, (.goto 69, 3)), (109, (.aload_n 0, 1)), (110, (.bipush 40, 2))], [(112, (.invokevirtual 375, 3)), (115, (.ifCond .eq 19, 3)), (118, (.aload_n 0, 1)), (119, (.iload_n 1, 1)), (120, (.iconst 1, 1)), (121, (.iadd, 1)), (122, (.invokevirtual 359, 3)), (125, (.aload_n 0, 1)), (126, (.bipush 41, 2))], [(128, (.invokevirtual 366, 3)), (131, (.goto 44, 3)), (134, (.aload_n 0, 1)), (135, (.iload_n 3, 1)), (136, (.ifCond .eq 7, 3)), (139, (.iconst 1, 1)), (140, (.goto 4, 3)), (143, (.iconst 2, 1))], [(144, (.iload_n 3, 1)), (145, (.ifCond .eq 16, 3)), (148, (.aload_n 0, 1)), (149, (.getfield 30, 3)), (152, (.aload_n 0, 1)), (153, (.getfield 234, 3)), (156, (.laload, 1)), (157, (.l2i, 1)), (158, (.goto 4, 3))], [(161, (.iload_n 2, 1)), (162, (.invokevirtual 362, 3)), (165, (.aload_n 0, 1)), (166, (.dup, 1)), (167, (.getfield 234, 3)), (170, (.iconst 1, 1)), (171, (.iadd, 1)), (172, (.putfield 234, 3)), (175, (.return_, 1))]]
set_option maxRecDepth 100000 in
def pmc_253 : pm_T (Instr × Nat) := [[(0, (.iconst (-1), 1)), (1, (.istore_n 1, 1)), (2, (.bipush 8, 2)), (4, (.istore_n 2, 1)), (5, (.iload_n 2, 1)), (6, (.bipush 18, 2)), (8, (.if_icmp .ge 33, 3)), (11, (.aload_n 0, 1)), (12, (.getfield 346, 3)), (15, (.ifCond .ne 26, 3))], [(18, (.aload_n 0, 1)), (19, (.iload_n 2, 1)), (20, (.invokevirtual 247, 3)), (23, (.ifCond .eq 10, 3)), (26, (.iload_n 2, 1)), (27, (.bipush 8, 2)), (29, (.isub, 1)), (30, (.goto 4, 3))], [(33, (.iload_n 1, 1)), (34, (.istore_n 1, 1)), (35, (.iinc 2 1, 3)), (38, (.goto (-33), 3)), (41, (.iconst 0, 1)), (42, (.istore_n 2, 1)), (43, (.iload_n 2, 1)), (44, (.bipush 9, 2)), (46, (.if_icmp .ge 35, 3))], [(49, (.aload_n 0, 1)), (50, (.getfield 346, 3)), (53, (.ifCond .eq 28, 3)), (56, (.aload_n 0, 1)), (57, (.aload_n 0, 1)), (58, (.getfield 145, 3)), (61, (.iload_n 2, 1)), (62, (.iaload, 1)), (63, (.invokevirtual 247, 3))], [(66, (.ifCond .eq 7, 3)), (69, (.iload_n 2, 1)), (70, (.goto 4, 3)), (73, (.iload_n 1, 1)), (74, (.istore_n 1, 1)), (75, (.iinc 2 1, 3)), (78, (.goto (-35), 3))], [(81, (.iload_n 1, 1)), (82, (.ireturn, 1))]]
set_option maxRecDepth 100000 in
def pmc_254 : pm_T (Instr × Nat) := [[(0, (.aload_n 0, 1)), (1, (.getfield 237, 3)), (4, (.ifCond .ne 35, 3)), (7, (.aload_n 0, 1)), (8, (.getfield 24, 3)), (11, (.aload_n 0, 1)), (12, (.getfield 234, 3)), (15, (.iaload, 1))], [(16, (.iconst 3, 1)), (17, (.if_icmp .ne 22, 3)), (20, (.aload_n 0, 1)), (21, (.getfield 30, 3)), (24, (.aload_n 0, 1)), (25, (.getfield 234, 3)), (28, (.laload, 1)), (29, (.iload_n 1, 1)), (30, (.i2l, 1)), (31, (.lcmp, 1))], [(32, (.ifCond .ne 7, 3)), (35, (.iconst 1, 1)), (36, (.goto 4, 3)), (39, (.iconst 0, 1)), (40, (.ireturn, 1))]]
set_option maxRecDepth 100000 in
def pmc_255 : pm_T (Instr × Nat) := [[(0, (.aload_n 0, 1)), (1, (.getfield 139, 3)), (4, (.sipush 4400, 3)), (7, (.aload_n 0, 1)), (8, (.getfield 340, 3)), (11, (.iadd, 1)), (12, (.iload_n 1, 1)), (13, (.iastore, 1)), (14, (.aload_n 0, 1)), (15, (.getfield 142, 3))], [(18, (.sipush 4400, 3)), (21, (.aload_n 0, 1)), (22, (.getfield 340, 3)), (25, (.iadd, 1)), (26, (.iload_n 2, 1)), (27, (.iastore, 1)), (28, (.aload_n 0, 1)), (29, (.dup, 1)), (30, (.getfield 340, 3))], [(33, (.iconst 1, 1)), (34, (.iadd, 1)), (35, (.putfield 340, 3)), (38, (.return_, 1))]]
set_option maxRecDepth 100000 in
def pmc_256 : pm_T (Instr × Nat) := [[(0, (.aload_n 0, 1)), (1, (.iload_n 1, 1)), (2, (.invokevirtual 240, 3)), (5, (.istore_n 2, 1)), (6, (.aload_n 0, 1)), (7, (.dup, 1)), (8, (.getfield 234, 3)), (11, (.iload_n 2, 1)), (12, (.ifCond .eq 7, 3)), (15, (.iconst 1, 1))], [(16, (.goto 4, 3)), (19, (.iconst 0, 1)), (20, (.iadd, 1)), (21, (.putfield 234, 3)), (24, (.iload_n 2, 1)), (25, (.ireturn, 1))]]
set_option maxRecDepth 100000 in
def pmc_257 : pm_T (Instr × Nat) := [[(0, (.aload_n 0, 1)), (1, (.iload_n 1, 1)), (2, (.invokevirtual 240, 3)), (5, (.ifCond .eq 16, 3)), (8, (.aload_n 0, 1)), (9, (.dup, 1)), (10, (.getfield 234, 3)), (13, (.iconst 1, 1)), (14, (.iadd, 1)), (15, (.putfield 234, 3))], [(18, (.goto 8, 3)), (21, (.aload_n 0, 1)), (22, (.iconst 1, 1)), (23, (.invokevirtual 243, 3)), (26, (.return_, 1))]]
set_option maxRecDepth 100000 in
def pmc_258 : pm_T (Instr × Nat) := [[(0, (.iconst 0, 1)), (1, (.istore_n 2, 1)), (2, (.iload_n 2, 1)), (3, (.aload_n 0, 1)), (4, (.getfield 340, 3)), (7, (.if_icmp .ge 53, 3)), (10, (.aload_n 0, 1)), (11, (.getfield 139, 3)), (14, (.sipush 1100, 3))], [(17, (.iload_n 1, 1)), (18, (.imul, 1)), (19, (.iload_n 2, 1)), (20, (.iadd, 1)), (21, (.aload_n 0, 1)), (22, (.getfield 139, 3)), (25, (.sipush 4400, 3)), (28, (.iload_n 2, 1)), (29, (.iadd, 1)), (30, (.iaload, 1)), (31, (.iastore, 1))], [(32, (.aload_n 0, 1)), (33, (.getfield 142, 3)), (36, (.sipush 1100, 3)), (39, (.iload_n 1, 1)), (40, (.imul, 1)), (41, (.iload_n 2, 1)), (42, (.iadd, 1)), (43, (.aload_n 0, 1)), (44, (.getfield 142, 3)), (47, (.sipush 4400, 3))], [(50, (.iload_n 2, 1)), (51, (.iadd, 1)), (52, (.iaload, 1)), (53, (.iastore, 1)), (54, (.iinc 2 1, 3)), (57, (.goto (-55), 3)), (60, (.return_, 1))]]
set_option maxRecDepth 100000 in
def pmc_259 : pm_T (Instr × Nat) := [[(0, (.aload_n 0, 1)), (1, (.iconst 0, 1)), (2, (.putfield 1, 3)), (5, (.iload_n 1, 1)), (6, (.iconst 0, 1)), (7, (.iconst 3, 1)), (8, (.invokestatic 253, 3)), (11, (.ifCond .eq 30, 3)), (14, (.iload_n 2, 1)), (15, (.iconst 0, 1))], [(16, (.sipush 9999, 3)), (19, (.invokestatic 253, 3)), (22, (.ifCond .eq 19, 3)), (25, (.aload_n 0, 1)), (26, (.iload_n 3, 1)), (27, (.invokevirtual 257, 3)), (30, (.ifCond .eq 11, 3))], [(33, (.iload 4, 2)), (35, (.invokestatic 260, 3)), (38, (.ifCond .ne 5, 3)), (41, (.iconst (-1), 1)), (42, (.ireturn, 1)), (43, (.aload_n 0, 1)), (44, (.iload_n 1, 1)), (45, (.iload_n 2, 1)), (46, (.invokevirtual 415, 3))], [(49, (.aload_n 0, 1)), (50, (.iload_n 3, 1)), (51, (.iload 4, 2)), (53, (.invokevirtual 418, 3)), (56, (.ireturn, 1))]]
set_option maxRecDepth 100000 in
def pmc_260 : pm_T (Instr × Nat) := [[(0, (.iload_n 2, 1)), (1, (.i2l, 1)), (2, (.lstore_n 3, 1)), (3, (.iconst 0, 1)), (4, (.istore 5, 2)), (6, (.iload 5, 2)), (8, (.bipush 24, 2)), (10, (.if_icmp .ge 78, 3)), (13, (.aload_n 0, 1)), (14, (.getfield 154, 3))], [(17, (.bipush 12, 2)), (19, (.iload 5, 2)), (21, (.imul, 1)), (22, (.aload_n 0, 1)), (23, (.getfield 118, 3)), (26, (.bipush 12, 2)), (28, (.iload 5, 2)), (30, (.imul, 1)), (31, (.iaload, 1))], [(32, (.iastore, 1)), (33, (.aload_n 0, 1)), (34, (.getfield 157, 3)), (37, (.bipush 12, 2)), (39, (.iload 5, 2)), (41, (.imul, 1)), (42, (.aload_n 0, 1)), (43, (.getfield 121, 3)), (46, (.bipush 12, 2))], [(48, (.iload 5, 2)), (50, (.imul, 1)), (51, (.iaload, 1)), (52, (.iastore, 1)), (53, (.aload_n 0, 1)), (54, (.getfield 160, 3)), (57, (.bipush 12, 2)), (59, (.iload 5, 2)), (61, (.imul, 1)), (62, (.aload_n 0, 1)), (63, (.getfield 115, 3))], [(66, (.bipush 12, 2)), (68, (.iload 5, 2)), (70, (.imul, 1)), (71, (.iaload, 1)), (72, (.iconst 2, 1)), (73, (.if_icmp .ne 7, 3)), (76, (.iconst 1, 1)), (77, (.goto 4, 3))], [(80, (.iconst 0, 1)), (81, (.bastore, 1)), (82, (.iinc 5 1, 3)), (85, (.goto (-79), 3)), (88, (.iconst 1, 1)), (89, (.istore 5, 2)), (91, (.iload 5, 2)), (93, (.bipush 12, 2)), (95, (.if_icmp .ge 68, 3))], [(98, (.iconst 0, 1)), (99, (.istore 6, 2)), (101, (.iload 6, 2)), (103, (.bipush 24, 2)), (105, (.if_icmp .ge 52, 3)), (108, (.aload_n 0, 1)), (109, (.getfield 93, 3))], [(112, (.iload 6, 2)), (114, (.baload, 1)), (115, (.ifCond .eq 36, 3)), (118, (.lload_n 3, 1)), (119, (.ldc2_w 397, 3)), (122, (.lmul, 1)), (123, (.ldc2_w 399, 3)), (126, (.ladd, 1)), (127, (.ldc2_w 401, 3))], [(130, (.lrem, 1)), (131, (.lstore_n 3, 1)), (132, (.aload_n 0, 1)), (133, (.iload_n 1, 1)), (134, (.iload 6, 2)), (136, (.iload 5, 2)), (138, (.lload_n 3, 1)), (139, (.ldc2_w 403, 3)), (142, (.ldiv, 1)), (143, (.ldc2_w 227, 3))], [(146, (.lrem, 1)), (147, (.l2i, 1)), (148, (.invokevirtual 405, 3)), (151, (.iinc 6 1, 3)), (154, (.goto (-53), 3)), (157, (.iinc 5 1, 3))], [(160, (.goto (-69), 3)), (163, (.return_, 1))]]
set_option maxRecDepth 100000 in
def pmc_261 : pm_T (Instr × Nat) := [[(0, (.bipush 12, 2)), (2, (.iload_n 2, 1)), (3, (.imul, 1)), (4, (.iload_n 3, 1)), (5, (.iadd, 1)), (6, (.istore 5, 2)), (8, (.aload_n 0, 1)), (9, (.getfield 109, 3)), (12, (.bipush 12, 2)), (14, (.aload_n 0, 1)), (15, (.getfield 97, 3))], [(18, (.iload_n 2, 1)), (19, (.iaload, 1)), (20, (.imul, 1)), (21, (.iload_n 3, 1)), (22, (.iadd, 1)), (23, (.iaload, 1)), (24, (.istore 6, 2)), (26, (.aload_n 0, 1)), (27, (.getfield 160, 3)), (30, (.iload 5, 2))], [(32, (.iconst 1, 1)), (33, (.isub, 1)), (34, (.baload, 1)), (35, (.istore 7, 2)), (37, (.aload_n 0, 1)), (38, (.getfield 148, 3)), (41, (.iconst 0, 1)), (42, (.aload_n 0, 1)), (43, (.getfield 154, 3)), (46, (.iload 5, 2))], [(48, (.iconst 1, 1)), (49, (.isub, 1)), (50, (.iaload, 1)), (51, (.iastore, 1)), (52, (.aload_n 0, 1)), (53, (.getfield 148, 3)), (56, (.iconst 1, 1)), (57, (.aload_n 0, 1)), (58, (.getfield 157, 3)), (61, (.iload 5, 2)), (63, (.iconst 1, 1))], [(64, (.isub, 1)), (65, (.iaload, 1)), (66, (.iastore, 1)), (67, (.aload_n 0, 1)), (68, (.getfield 148, 3)), (71, (.iconst 2, 1)), (72, (.aload_n 0, 1)), (73, (.getfield 100, 3)), (76, (.iload_n 2, 1)), (77, (.iaload, 1)), (78, (.iastore, 1)), (79, (.aload_n 0, 1))], [(80, (.getfield 148, 3)), (83, (.iconst 3, 1)), (84, (.iload 6, 2)), (86, (.iastore, 1)), (87, (.aload_n 0, 1)), (88, (.getfield 148, 3)), (91, (.iconst 4, 1)), (92, (.iload 6, 2)), (94, (.aload_n 0, 1)), (95, (.getfield 100, 3))], [(98, (.iload_n 2, 1)), (99, (.iaload, 1)), (100, (.if_icmp .le 15, 3)), (103, (.iload 6, 2)), (105, (.aload_n 0, 1)), (106, (.getfield 100, 3)), (109, (.iload_n 2, 1)), (110, (.iaload, 1)), (111, (.isub, 1))], [(112, (.goto 4, 3)), (115, (.iconst 0, 1)), (116, (.iastore, 1)), (117, (.aload_n 0, 1)), (118, (.getfield 148, 3)), (121, (.iconst 5, 1)), (122, (.aload_n 0, 1)), (123, (.getfield 97, 3)), (126, (.iload_n 2, 1)), (127, (.iaload, 1))], [(128, (.iastore, 1)), (129, (.aload_n 0, 1)), (130, (.getfield 148, 3)), (133, (.bipush 6, 2)), (135, (.iload_n 3, 1)), (136, (.iastore, 1)), (137, (.aload_n 0, 1)), (138, (.getfield 148, 3)), (141, (.bipush 7, 2)), (143, (.aload_n 0, 1))], [(144, (.getfield 112, 3)), (147, (.bipush 12, 2)), (149, (.aload_n 0, 1)), (150, (.getfield 97, 3)), (153, (.iload_n 2, 1)), (154, (.iaload, 1)), (155, (.imul, 1)), (156, (.iload_n 3, 1)), (157, (.iadd, 1)), (158, (.iaload, 1)), (159, (.iastore, 1))], [(160, (.aload_n 0, 1)), (161, (.getfield 148, 3)), (164, (.bipush 8, 2)), (166, (.iload 4, 2)), (168, (.iastore, 1)), (169, (.aload_n 0, 1)), (170, (.getfield 148, 3)), (173, (.bipush 9, 2)), (175, (.iload 7, 2))], [(177, (.ifCond .eq 7, 3)), (180, (.iconst 1, 1)), (181, (.goto 4, 3)), (184, (.iconst 0, 1)), (185, (.iastore, 1)), (186, (.iload 7, 2)), (188, (.ifCond .eq 20, 3)), (191, (.aload_n 0, 1))], [(192, (.iload_n 1, 1)), (193, (.iconst 3, 1)), (194, (.invokevirtual 409, 3)), (197, (.ifCond .ne 7, 3)), (200, (.iconst 1, 1)), (201, (.goto 13, 3)), (204, (.iconst 0, 1)), (205, (.goto 9, 3))], [(208, (.aload_n 0, 1)), (209, (.iload_n 1, 1)), (210, (.iconst 2, 1)), (211, (.invokevirtual 409, 3)), (214, (.istore 8, 2)), (216, (.aload_n 0, 1)), (217, (.getfield 160, 3)), (220, (.iload 5, 2)), (222, (.iload 8, 2))], [(224, (.bastore, 1)), (225, (.aload_n 0, 1)), (226, (.getfield 154, 3)), (229, (.iload 5, 2)), (231, (.iload 8, 2)), (233, (.ifCond .eq 7, 3)), (236, (.iconst 0, 1)), (237, (.goto 15, 3))], [(240, (.aload_n 0, 1)), (241, (.iload_n 1, 1)), (242, (.iconst 0, 1)), (243, (.aload_n 0, 1)), (244, (.getfield 148, 3)), (247, (.iconst 0, 1)), (248, (.iaload, 1)), (249, (.invokevirtual 412, 3)), (252, (.iastore, 1)), (253, (.aload_n 0, 1)), (254, (.getfield 157, 3))], [(257, (.iload 5, 2)), (259, (.iload 8, 2)), (261, (.ifCond .eq 7, 3)), (264, (.iconst 0, 1)), (265, (.goto 15, 3)), (268, (.aload_n 0, 1)), (269, (.iload_n 1, 1)), (270, (.iconst 1, 1)), (271, (.aload_n 0, 1))], [(272, (.getfield 148, 3)), (275, (.iconst 1, 1)), (276, (.iaload, 1)), (277, (.invokevirtual 412, 3)), (280, (.iastore, 1)), (281, (.return_, 1))]]
set_option maxRecDepth 100000 in
def pmc_262 : pm_T (Instr × Nat) := [[(0, (.aload_n 0, 1)), (1, (.getfield 136, 3)), (4, (.iconst 4, 1)), (5, (.iload_n 1, 1)), (6, (.imul, 1)), (7, (.iload_n 2, 1)), (8, (.iadd, 1)), (9, (.iaload, 1)), (10, (.ifCond .lt 16, 3)), (13, (.aload_n 0, 1)), (14, (.iload_n 1, 1)), (15, (.iload_n 2, 1))], [(16, (.invokevirtual 394, 3)), (19, (.ifCond .eq 7, 3)), (22, (.iconst 1, 1)), (23, (.goto 4, 3)), (26, (.iconst 0, 1)), (27, (.ireturn, 1))]]
set_option maxRecDepth 100000 in
def pmc_263 : pm_T (Instr × Nat) := [[(0, (.aload_n 0, 1)), (1, (.sipush 1100, 3)), (4, (.iload_n 1, 1)), (5, (.imul, 1)), (6, (.aload_n 0, 1)), (7, (.getfield 136, 3)), (10, (.iconst 4, 1)), (11, (.iload_n 1, 1)), (12, (.imul, 1)), (13, (.iload_n 2, 1)), (14, (.iadd, 1)), (15, (.iaload, 1))], [(16, (.iadd, 1)), (17, (.invokevirtual 388, 3)), (20, (.ireturn, 1))]]
set_option maxRecDepth 100000 in
def pmc_264 : pm_T (Instr × Nat) := [[(0, (.iconst 0, 1)), (1, (.istore_n 2, 1)), (2, (.iload_n 1, 1)), (3, (.istore_n 3, 1)), (4, (.aload_n 0, 1)), (5, (.getfield 139, 3)), (8, (.iload_n 3, 1)), (9, (.iaload, 1)), (10, (.ifCond .eq 130, 3)), (13, (.aload_n 0, 1)), (14, (.getfield 139, 3))], [(17, (.iload_n 3, 1)), (18, (.iaload, 1)), (19, (.istore 4, 2)), (21, (.iload 4, 2)), (23, (.iconst 1, 1)), (24, (.if_icmp .eq 9, 3)), (27, (.iload 4, 2)), (29, (.iconst 2, 1)), (30, (.if_icmp .ne 41, 3))], [(33, (.aload_n 0, 1)), (34, (.getfield 151, 3)), (37, (.iload_n 2, 1)), (38, (.iload 4, 2)), (40, (.iconst 1, 1)), (41, (.if_icmp .ne 12, 3)), (44, (.aload_n 0, 1)), (45, (.getfield 142, 3))], [(48, (.iload_n 3, 1)), (49, (.iaload, 1)), (50, (.goto 14, 3)), (53, (.aload_n 0, 1)), (54, (.getfield 148, 3)), (57, (.aload_n 0, 1)), (58, (.getfield 142, 3)), (61, (.iload_n 3, 1)), (62, (.iaload, 1)), (63, (.iaload, 1))], [(64, (.iastore, 1)), (65, (.iinc 2 1, 3)), (68, (.goto 66, 3)), (71, (.iload 4, 2)), (73, (.iconst 3, 1)), (74, (.if_icmp .ne 30, 3)), (77, (.aload_n 0, 1)), (78, (.getfield 151, 3))], [(81, (.iload_n 2, 1)), (82, (.iconst 1, 1)), (83, (.isub, 1)), (84, (.aload_n 0, 1)), (85, (.getfield 151, 3)), (88, (.iload_n 2, 1)), (89, (.iconst 1, 1)), (90, (.isub, 1)), (91, (.iaload, 1)), (92, (.ifCond .ne 7, 3)), (95, (.iconst 1, 1))], [(96, (.goto 4, 3)), (99, (.iconst 0, 1)), (100, (.iastore, 1)), (101, (.goto 33, 3)), (104, (.iinc 2 (-1), 3)), (107, (.aload_n 0, 1)), (108, (.getfield 151, 3)), (111, (.iload_n 2, 1))], [(112, (.iconst 1, 1)), (113, (.isub, 1)), (114, (.iload 4, 2)), (116, (.aload_n 0, 1)), (117, (.getfield 151, 3)), (120, (.iload_n 2, 1)), (121, (.iconst 1, 1)), (122, (.isub, 1)), (123, (.iaload, 1)), (124, (.aload_n 0, 1)), (125, (.getfield 151, 3))], [(128, (.iload_n 2, 1)), (129, (.iaload, 1)), (130, (.invokestatic 391, 3)), (133, (.iastore, 1)), (134, (.iinc 3 1, 3)), (137, (.goto (-133), 3)), (140, (.aload_n 0, 1)), (141, (.getfield 151, 3))], [(144, (.iconst 0, 1)), (145, (.iaload, 1)), (146, (.ireturn, 1))]]
set_option maxRecDepth 100000 in
def pmc_265 : pm_T (Instr × Nat) := [[(0, (.iload_n 0, 1)), (1, (.tableswitch 87 4 9 #[39, 43, 47, 51, 62, 73], 39))], [], [(40, (.iload_n 1, 1)), (41, (.iload_n 2, 1)), (42, (.iadd, 1)), (43, (.ireturn, 1)), (44, (.iload_n 1, 1)), (45, (.iload_n 2, 1)), (46, (.isub, 1)), (47, (.ireturn, 1))], [(48, (.iload_n 1, 1)), (49, (.iload_n 2, 1)), (50, (.imul, 1)), (51, (.ireturn, 1)), (52, (.iload_n 1, 1)), (53, (.iload_n 2, 1)), (54, (.if_icmp .ge 7, 3)), (57, (.iconst 1, 1)), (58, (.goto 4, 3)), (61, (.iconst 0, 1)), (62, (.ireturn, 1)), (63, (.iload_n 1, 1))], [(64, (.iload_n 2, 1)), (65, (.if_icmp .ne 7, 3)), (68, (.iconst 1, 1)), (69, (.goto 4, 3)), (72, (.iconst 0, 1)), (73, (.ireturn, 1)), (74, (.iload_n 1, 1)), (75, (.ifCond .eq 11, 3)), (78, (.iload_n 2, 1)), (79, (.ifCond .eq 7, 3))], [(82, (.iconst 1, 1)), (83, (.goto 4, 3)), (86, (.iconst 0, 1)), (87, (.ireturn, 1)), (88, (.iload_n 1, 1)), (89, (.ifCond .ne 7, 3)), (92, (.iload_n 2, 1)), (93, (.ifCond .eq 7, 3))], [(96, (.iconst 1, 1)), (97, (.goto 4, 3)), (100, (.iconst 0, 1)), (101, (.ireturn, 1))]]
set_option maxRecDepth 100000 in
def pmc_266 : pm_T (Instr × Nat) := [[(0, (.aload_n 0, 1)), (1, (.getfield 136, 3)), (4, (.iconst 4, 1)), (5, (.iload_n 1, 1)), (6, (.imul, 1)), (7, (.iload_n 2, 1)), (8, (.iadd, 1)), (9, (.iaload, 1)), (10, (.ifCond .ge 5, 3)), (13, (.iload_n 3, 1)), (14, (.ireturn, 1)), (15, (.aload_n 0, 1))], [(16, (.iload_n 1, 1)), (17, (.iload_n 2, 1)), (18, (.invokevirtual 394, 3)), (21, (.istore 4, 2)), (23, (.iload 4, 2)), (25, (.ifCond .ge 7, 3)), (28, (.iconst 0, 1)), (29, (.goto 17, 3))], [(32, (.iload 4, 2)), (34, (.bipush 99, 2)), (36, (.if_icmp .le 8, 3)), (39, (.bipush 99, 2)), (41, (.goto 5, 3)), (44, (.iload 4, 2)), (46, (.ireturn, 1))]]
set_option maxRecDepth 100000 in
def pmc_267 : pm_T (Instr × Nat) := [[(0, (.aload_n 0, 1)), (1, (.aload_n 0, 1)), (2, (.getfield 154, 3)), (5, (.bipush 12, 2)), (7, (.iload_n 1, 1)), (8, (.imul, 1)), (9, (.iload_n 2, 1)), (10, (.iadd, 1)), (11, (.iaload, 1)), (12, (.aload_n 0, 1)), (13, (.getfield 157, 3))], [(16, (.bipush 12, 2)), (18, (.iload_n 1, 1)), (19, (.imul, 1)), (20, (.iload_n 2, 1)), (21, (.iadd, 1)), (22, (.iaload, 1)), (23, (.invokevirtual 263, 3)), (26, (.ireturn, 1))]]
set_option maxRecDepth 100000 in
def pmc_268 : pm_T (Instr × Nat) := [[(0, (.aload_n 0, 1)), (1, (.iconst 0, 1)), (2, (.putfield 1, 3)), (5, (.iload_n 1, 1)), (6, (.iconst 0, 1)), (7, (.iconst 3, 1)), (8, (.invokestatic 253, 3)), (11, (.ifCond .eq 19, 3)), (14, (.iload_n 2, 1)), (15, (.invokestatic 421, 3))], [(18, (.ifCond .eq 12, 3)), (21, (.aload_n 0, 1)), (22, (.iload_n 1, 1)), (23, (.iload_n 2, 1)), (24, (.invokevirtual 424, 3)), (27, (.goto 6, 3)), (30, (.ldc2_w 338, 3))], [(33, (.lreturn, 1))]]
set_option maxRecDepth 100000 in
def pmc_269 : pm_T (Instr × Nat) := [[(0, (.iload_n 0, 1)), (1, (.iconst 1, 1)), (2, (.bipush 20, 2)), (4, (.invokestatic 253, 3)), (7, (.ireturn, 1))]]
set_option maxRecDepth 100000 in
def pmc_270 : pm_T (Instr × Nat) := [[(0, (.lconst 0, 1)), (1, (.lstore_n 3, 1)), (2, (.iconst 0, 1)), (3, (.istore 5, 2)), (5, (.iload 5, 2)), (7, (.iload_n 2, 1)), (8, (.if_icmp .ge 113, 3)), (11, (.aload_n 0, 1)), (12, (.iload_n 1, 1)), (13, (.iload 5, 2)), (15, (.invokevirtual 415, 3))], [(18, (.iconst 0, 1)), (19, (.istore 6, 2)), (21, (.iload 6, 2)), (23, (.sipush 288, 3)), (26, (.if_icmp .ge 89, 3)), (29, (.aload_n 0, 1)), (30, (.getfield 93, 3))], [(33, (.iload 6, 2)), (35, (.bipush 12, 2)), (37, (.idiv, 1)), (38, (.baload, 1)), (39, (.ifCond .eq 70, 3)), (42, (.iload 6, 2)), (44, (.bipush 12, 2)), (46, (.irem, 1)), (47, (.ifCond .le 62, 3))], [(50, (.aload_n 0, 1)), (51, (.getfield 115, 3)), (54, (.iload 6, 2)), (56, (.iaload, 1)), (57, (.ifCond .eq 52, 3)), (60, (.aload_n 0, 1)), (61, (.iload 6, 2)), (63, (.bipush 12, 2))], [(65, (.idiv, 1)), (66, (.iload 6, 2)), (68, (.bipush 12, 2)), (70, (.irem, 1)), (71, (.invokevirtual 418, 3)), (74, (.aload_n 0, 1)), (75, (.iload 6, 2)), (77, (.bipush 12, 2)), (79, (.idiv, 1))], [(80, (.iload 6, 2)), (82, (.bipush 12, 2)), (84, (.irem, 1)), (85, (.invokevirtual 267, 3)), (88, (.isub, 1)), (89, (.istore 7, 2)), (91, (.lload_n 3, 1)), (92, (.iload 7, 2)), (94, (.ifCond .ge 10, 3))], [(97, (.iload 7, 2)), (99, (.ineg, 1)), (100, (.i2l, 1)), (101, (.goto 6, 3)), (104, (.iload 7, 2)), (106, (.i2l, 1)), (107, (.ladd, 1)), (108, (.lstore_n 3, 1)), (109, (.iinc 6 1, 3))], [(112, (.goto (-91), 3)), (115, (.iinc 5 1, 3)), (118, (.goto (-113), 3)), (121, (.lload_n 3, 1)), (122, (.lreturn, 1))]]
set_option maxRecDepth 100000 in
def pmc_271 : pm_T (Instr × Nat) := [[(0, (.aload_n 0, 1)), (1, (.iconst 0, 1)), (2, (.putfield 1, 3)), (5, (.iload_n 1, 1)), (6, (.invokestatic 421, 3)), (9, (.ifCond .ne 5, 3)), (12, (.iconst (-1), 1)), (13, (.ireturn, 1)), (14, (.iconst 0, 1)), (15, (.istore_n 2, 1))], [(16, (.aload_n 0, 1)), (17, (.iconst 0, 1)), (18, (.iload_n 1, 1)), (19, (.invokevirtual 424, 3)), (22, (.lstore_n 3, 1)), (23, (.iconst 1, 1)), (24, (.istore 5, 2)), (26, (.iload 5, 2)), (28, (.iconst 4, 1)), (29, (.if_icmp .ge 31, 3))], [(32, (.aload_n 0, 1)), (33, (.iload 5, 2)), (35, (.iload_n 1, 1)), (36, (.invokevirtual 424, 3)), (39, (.lstore 6, 2)), (41, (.lload 6, 2)), (43, (.lload_n 3, 1)), (44, (.lcmp, 1)), (45, (.ifCond .ge 9, 3))], [(48, (.lload 6, 2)), (50, (.lstore_n 3, 1)), (51, (.iload 5, 2)), (53, (.istore_n 2, 1)), (54, (.iinc 5 1, 3)), (57, (.goto (-31), 3)), (60, (.iload_n 2, 1)), (61, (.ireturn, 1))]]
set_option maxRecDepth 100000 in
def pmc_272 : pm_T (Instr × Nat) := [[(0, (.aload_n 0, 1)), (1, (.iconst 0, 1)), (2, (.putfield 1, 3)), (5, (.iload_n 1, 1)), (6, (.iconst 0, 1)), (7, (.iconst 3, 1)), (8, (.invokestatic 253, 3)), (11, (.ifCond .eq 40, 3)), (14, (.iload_n 2, 1)), (15, (.invokestatic 421, 3))], [(18, (.ifCond .eq 33, 3)), (21, (.iload_n 3, 1)), (22, (.iload 4, 2)), (24, (.invokestatic 270, 3)), (27, (.ifCond .eq 24, 3)), (30, (.iload 5, 2))], [(32, (.iconst 0, 1)), (33, (.iconst 2, 1)), (34, (.invokestatic 253, 3)), (37, (.ifCond .eq 14, 3)), (40, (.aload_n 0, 1)), (41, (.iload_n 3, 1)), (42, (.iload 4, 2)), (44, (.iconst (-1), 1)), (45, (.invokevirtual 318, 3))], [(48, (.ifCond .ne 5, 3)), (51, (.iconst (-1), 1)), (52, (.ireturn, 1)), (53, (.iconst 0, 1)), (54, (.istore 6, 2)), (56, (.iconst 0, 1)), (57, (.istore 7, 2)), (59, (.iload 7, 2)), (61, (.iload_n 2, 1)), (62, (.if_icmp .ge 135, 3))], [(65, (.aload_n 0, 1)), (66, (.iload_n 1, 1)), (67, (.iload 7, 2)), (69, (.invokevirtual 415, 3)), (72, (.aload_n 0, 1)), (73, (.invokevirtual 304, 3)), (76, (.iconst 0, 1)), (77, (.istore 8, 2)), (79, (.iload 8, 2))], [(81, (.bipush 24, 2)), (83, (.if_icmp .ge 57, 3)), (86, (.aload_n 0, 1)), (87, (.iload 8, 2)), (89, (.iload_n 3, 1)), (90, (.iload 4, 2)), (92, (.invokevirtual 274, 3)), (95, (.ifCond .eq 39, 3))], [(98, (.aload_n 0, 1)), (99, (.aload_n 0, 1)), (100, (.getfield 97, 3)), (103, (.iload 8, 2)), (105, (.iaload, 1)), (106, (.ifCond .ne 7, 3)), (109, (.iconst 1, 1)), (110, (.goto 4, 3))], [(113, (.iconst 0, 1)), (114, (.aload_n 0, 1)), (115, (.iload 8, 2)), (117, (.iload 4, 2)), (119, (.invokevirtual 418, 3)), (122, (.aload_n 0, 1)), (123, (.iload 8, 2)), (125, (.iload_n 3, 1)), (126, (.invokevirtual 418, 3))], [(129, (.isub, 1)), (130, (.i2l, 1)), (131, (.invokevirtual 307, 3)), (134, (.iinc 8 1, 3)), (137, (.goto (-58), 3)), (140, (.aload_n 0, 1)), (141, (.invokevirtual 311, 3))], [(144, (.pop, 1)), (145, (.aload_n 0, 1)), (146, (.getfield 281, 3)), (149, (.lconst 0, 1)), (150, (.lcmp, 1)), (151, (.ifCond .ge 7, 3)), (154, (.iconst 0, 1)), (155, (.goto 17, 3)), (158, (.aload_n 0, 1)), (159, (.getfield 281, 3))], [(162, (.lconst 0, 1)), (163, (.lcmp, 1)), (164, (.ifCond .ne 7, 3)), (167, (.iconst 1, 1)), (168, (.goto 4, 3)), (171, (.iconst 2, 1)), (172, (.istore 8, 2)), (174, (.iload 6, 2))], [(176, (.iload 8, 2)), (178, (.iload 5, 2)), (180, (.if_icmp .ne 7, 3)), (183, (.iconst 1, 1)), (184, (.goto 4, 3)), (187, (.iconst 0, 1)), (188, (.iadd, 1)), (189, (.istore 6, 2)), (191, (.iinc 7 1, 3))], [(194, (.goto (-135), 3)), (197, (.iload 6, 2)), (199, (.ireturn, 1))]]
set_option maxRecDepth 100000 in
def pmc_273 : pm_T (Instr × Nat) := [[(0, (.aload_n 0, 1)), (1, (.iconst 0, 1)), (2, (.putfield 1, 3)), (5, (.iload_n 1, 1)), (6, (.sipush (-9999), 3)), (9, (.sipush 9999, 3)), (12, (.invokestatic 253, 3)), (15, (.ifCond .eq 23, 3))], [(18, (.iload_n 2, 1)), (19, (.iconst 1, 1)), (20, (.sipush 999, 3)), (23, (.invokestatic 253, 3)), (26, (.ifCond .eq 12, 3)), (29, (.aload_n 0, 1)), (30, (.getfield 428, 3))], [(33, (.bipush 20, 2)), (35, (.if_icmp .ne 5, 3)), (38, (.iconst (-1), 1)), (39, (.ireturn, 1)), (40, (.aload_n 0, 1)), (41, (.getfield 163, 3)), (44, (.aload_n 0, 1)), (45, (.getfield 428, 3))], [(48, (.iload_n 1, 1)), (49, (.iastore, 1)), (50, (.aload_n 0, 1)), (51, (.getfield 166, 3)), (54, (.aload_n 0, 1)), (55, (.getfield 428, 3)), (58, (.iload_n 2, 1)), (59, (.iastore, 1)), (60, (.aload_n 0, 1)), (61, (.getfield 169, 3))], [(64, (.aload_n 0, 1)), (65, (.getfield 428, 3)), (68, (.iload_n 3, 1)), (69, (.bastore, 1)), (70, (.aload_n 0, 1)), (71, (.dup, 1)), (72, (.getfield 428, 3)), (75, (.iconst 1, 1)), (76, (.iadd, 1)), (77, (.putfield 428, 3))], [(80, (.aload_n 0, 1)), (81, (.getfield 428, 3)), (84, (.iconst 1, 1)), (85, (.isub, 1)), (86, (.ireturn, 1))]]
set_option maxRecDepth 100000 in
def pmc_274 : pm_T (Instr × Nat) := [[(0, (.aload_n 0, 1)), (1, (.iload_n 2, 1)), (2, (.invokestatic 315, 3)), (5, (.ifCond .eq 15, 3)), (8, (.aload_n 0, 1)), (9, (.iload_n 1, 1)), (10, (.invokevirtual 431, 3)), (13, (.ifCond .eq 7, 3))], [(16, (.iconst 0, 1)), (17, (.goto 4, 3)), (20, (.iconst 1, 1)), (21, (.putfield 1, 3)), (24, (.aload_n 0, 1)), (25, (.getfield 1, 3)), (28, (.ifCond .le 7, 3)), (31, (.lconst 0, 1))], [(32, (.goto 8, 3)), (35, (.aload_n 0, 1)), (36, (.iload_n 2, 1)), (37, (.invokevirtual 321, 3)), (40, (.lreturn, 1))]]
set_option maxRecDepth 100000 in
def pmc_275 : pm_T (Instr × Nat) := [[(0, (.aload_n 0, 1)), (1, (.lconst 0, 1)), (2, (.putfield 281, 3)), (5, (.aload_n 0, 1)), (6, (.lconst 0, 1)), (7, (.putfield 285, 3)), (10, (.iconst 0, 1)), (11, (.istore_n 2, 1)), (12, (.iload_n 2, 1)), (13, (.aload_n 0, 1)), (14, (.getfield 428, 3))], [(17, (.if_icmp .ge 54, 3)), (20, (.iload_n 1, 1)), (21, (.ifCond .eq 12, 3)), (24, (.aload_n 0, 1)), (25, (.getfield 169, 3)), (28, (.iload_n 2, 1)), (29, (.baload, 1)), (30, (.ifCond .eq 35, 3))], [(33, (.aload_n 0, 1)), (34, (.dup, 1)), (35, (.getfield 281, 3)), (38, (.aload_n 0, 1)), (39, (.getfield 163, 3)), (42, (.iload_n 2, 1)), (43, (.iaload, 1)), (44, (.i2l, 1)), (45, (.ladd, 1)), (46, (.putfield 281, 3))], [(49, (.aload_n 0, 1)), (50, (.dup, 1)), (51, (.getfield 285, 3)), (54, (.aload_n 0, 1)), (55, (.getfield 166, 3)), (58, (.iload_n 2, 1)), (59, (.iaload, 1)), (60, (.i2l, 1)), (61, (.ladd, 1)), (62, (.putfield 285, 3))], [(65, (.iinc 2 1, 3)), (68, (.goto (-56), 3)), (71, (.aload_n 0, 1)), (72, (.getfield 285, 3)), (75, (.lconst 0, 1)), (76, (.lcmp, 1)), (77, (.ifCond .le 7, 3))], [(80, (.iconst 1, 1)), (81, (.goto 4, 3)), (84, (.iconst 0, 1)), (85, (.ireturn, 1))]]
set_option maxRecDepth 100000 in
def pmc_276 : pm_T (Instr × Nat) := [[(0, (.aload_n 0, 1)), (1, (.iconst 0, 1)), (2, (.putfield 1, 3)), (5, (.iload_n 1, 1)), (6, (.iconst 1, 1)), (7, (.sipush 999, 3)), (10, (.invokestatic 253, 3)), (13, (.ifCond .eq 11, 3))], [(16, (.aload_n 0, 1)), (17, (.iconst 1, 1)), (18, (.invokevirtual 431, 3)), (21, (.ifCond .ne 5, 3)), (24, (.iconst (-1), 1)), (25, (.ireturn, 1)), (26, (.aload_n 0, 1)), (27, (.getfield 281, 3)), (30, (.lconst 0, 1)), (31, (.lcmp, 1))], [(32, (.ifCond .ge 11, 3)), (35, (.aload_n 0, 1)), (36, (.getfield 281, 3)), (39, (.lneg, 1)), (40, (.goto 7, 3)), (43, (.aload_n 0, 1)), (44, (.getfield 281, 3)), (47, (.lstore_n 2, 1))], [(48, (.lload_n 2, 1)), (49, (.iload_n 1, 1)), (50, (.i2l, 1)), (51, (.ladd, 1)), (52, (.lconst 1, 1)), (53, (.lsub, 1)), (54, (.iload_n 1, 1)), (55, (.i2l, 1)), (56, (.ldiv, 1)), (57, (.l2i, 1)), (58, (.ireturn, 1))]]
set_option maxRecDepth 100000 in
def pmc_277 : pm_T (Instr × Nat) := [[(0, (.aload_n 0, 1)), (1, (.iconst 0, 1)), (2, (.putfield 1, 3)), (5, (.iload_n 1, 1)), (6, (.invokestatic 435, 3)), (9, (.ifCond .ne 10, 3)), (12, (.aload_n 0, 1)), (13, (.iconst 0, 1)), (14, (.putfield 11, 3))], [(17, (.iconst (-1), 1)), (18, (.ireturn, 1)), (19, (.aload_n 0, 1)), (20, (.invokevirtual 343, 3)), (23, (.aload_n 0, 1)), (24, (.iconst 0, 1)), (25, (.putfield 340, 3)), (28, (.aload_n 0, 1)), (29, (.iconst 1, 1)), (30, (.putfield 346, 3))], [(33, (.iconst 0, 1)), (34, (.istore_n 2, 1)), (35, (.iload_n 2, 1)), (36, (.iconst 4, 1)), (37, (.if_icmp .ge 16, 3)), (40, (.aload_n 0, 1)), (41, (.getfield 184, 3)), (44, (.iload_n 2, 1)), (45, (.iconst (-1), 1)), (46, (.iastore, 1)), (47, (.iinc 2 1, 3))], [(50, (.goto (-15), 3)), (53, (.aload_n 0, 1)), (54, (.getfield 237, 3)), (57, (.ifCond .ne 22, 3)), (60, (.aload_n 0, 1)), (61, (.getfield 24, 3))], [(64, (.aload_n 0, 1)), (65, (.getfield 234, 3)), (68, (.iaload, 1)), (69, (.ifCond .eq 10, 3)), (72, (.aload_n 0, 1)), (73, (.invokevirtual 438, 3)), (76, (.goto (-23), 3)), (79, (.aload_n 0, 1))], [(80, (.getfield 237, 3)), (83, (.ifCond .le 8, 3)), (86, (.aload_n 0, 1)), (87, (.getfield 237, 3)), (90, (.ireturn, 1)), (91, (.aload_n 0, 1)), (92, (.iconst 5, 1)), (93, (.iload_n 1, 1)), (94, (.iadd, 1)), (95, (.invokevirtual 353, 3))], [(98, (.aload_n 0, 1)), (99, (.getfield 172, 3)), (102, (.iload_n 1, 1)), (103, (.aload_n 0, 1)), (104, (.getfield 184, 3)), (107, (.iconst 0, 1)), (108, (.iaload, 1)), (109, (.iastore, 1)), (110, (.aload_n 0, 1)), (111, (.getfield 175, 3))], [(114, (.iload_n 1, 1)), (115, (.aload_n 0, 1)), (116, (.getfield 184, 3)), (119, (.iconst 1, 1)), (120, (.iaload, 1)), (121, (.ifCond .ge 7, 3)), (124, (.iconst 0, 1)), (125, (.goto 9, 3))], [(128, (.aload_n 0, 1)), (129, (.getfield 184, 3)), (132, (.iconst 1, 1)), (133, (.iaload, 1)), (134, (.iastore, 1)), (135, (.aload_n 0, 1)), (136, (.getfield 178, 3)), (139, (.iload_n 1, 1)), (140, (.aload_n 0, 1)), (141, (.getfield 184, 3))], [(144, (.iconst 2, 1)), (145, (.iaload, 1)), (146, (.ifCond .ge 8, 3)), (149, (.bipush 11, 2)), (151, (.goto 9, 3)), (154, (.aload_n 0, 1)), (155, (.getfield 184, 3)), (158, (.iconst 2, 1)), (159, (.iaload, 1))], [(160, (.iastore, 1)), (161, (.aload_n 0, 1)), (162, (.getfield 181, 3)), (165, (.iload_n 1, 1)), (166, (.aload_n 0, 1)), (167, (.getfield 184, 3)), (170, (.iconst 3, 1)), (171, (.iaload, 1)), (172, (.iastore, 1)), (173, (.iconst 0, 1)), (174, (.ireturn, 1))]]
set_option maxRecDepth 100000 in
def pmc_278 : pm_T (Instr × Nat) := [[(0, (.iload_n 0, 1)), (1, (.iconst 0, 1)), (2, (.iconst 3, 1)), (3, (.invokestatic 253, 3)), (6, (.ireturn, 1))]]
set_option maxRecDepth 100000 in
def pmc_279 : pm_T (Instr × Nat) := [[(0, (.iconst (-1), 1)), (1, (.istore_n 1, 1)), (2, (.iconst 0, 1)), (3, (.istore_n 2, 1)), (4, (.iload_n 2, 1)), (5, (.iconst 4, 1)), (6, (.if_icmp .ge 26, 3)), (9, (.aload_n 0, 1)), (10, (.bipush 18, 2)), (12, (.iload_n 2, 1)), (13, (.iadd, 1)), (14, (.invokevirtual 247, 3))], [(17, (.ifCond .eq 7, 3)), (20, (.iload_n 2, 1)), (21, (.goto 4, 3)), (24, (.iload_n 1, 1)), (25, (.istore_n 1, 1)), (26, (.iinc 2 1, 3)), (29, (.goto (-25), 3))], [(32, (.iload_n 1, 1)), (33, (.ifCond .ge 11, 3)), (36, (.aload_n 0, 1)), (37, (.iconst 1, 1)), (38, (.invokevirtual 243, 3)), (41, (.goto 17, 3)), (44, (.aload_n 0, 1)), (45, (.getfield 184, 3))], [(48, (.iload_n 1, 1)), (49, (.iaload, 1)), (50, (.ifCond .lt 8, 3)), (53, (.aload_n 0, 1)), (54, (.iconst 3, 1)), (55, (.invokevirtual 243, 3)), (58, (.aload_n 0, 1)), (59, (.getfield 237, 3)), (62, (.ifCond .le 4, 3))], [(65, (.return_, 1)), (66, (.aload_n 0, 1)), (67, (.dup, 1)), (68, (.getfield 234, 3)), (71, (.iconst 1, 1)), (72, (.iadd, 1)), (73, (.putfield 234, 3)), (76, (.iload_n 1, 1)), (77, (.ifCond .ne 32, 3))], [(80, (.aload_n 0, 1)), (81, (.iconst 4, 1)), (82, (.invokevirtual 356, 3)), (85, (.aload_n 0, 1)), (86, (.getfield 184, 3)), (89, (.iconst 0, 1)), (90, (.aload_n 0, 1)), (91, (.getfield 340, 3)), (94, (.iastore, 1)), (95, (.aload_n 0, 1))], [(96, (.iconst 0, 1)), (97, (.invokevirtual 359, 3)), (100, (.aload_n 0, 1)), (101, (.iconst 0, 1)), (102, (.iconst 0, 1)), (103, (.invokevirtual 362, 3)), (106, (.goto 85, 3)), (109, (.aload_n 0, 1)), (110, (.getfield 24, 3))], [(113, (.aload_n 0, 1)), (114, (.getfield 234, 3)), (117, (.iaload, 1)), (118, (.iconst 2, 1)), (119, (.if_icmp .eq 11, 3)), (122, (.aload_n 0, 1)), (123, (.iconst 1, 1)), (124, (.invokevirtual 243, 3)), (127, (.goto 64, 3))], [(130, (.aload_n 0, 1)), (131, (.getfield 30, 3)), (134, (.aload_n 0, 1)), (135, (.getfield 234, 3)), (138, (.laload, 1)), (139, (.iload_n 1, 1)), (140, (.iconst 3, 1)), (141, (.if_icmp .ne 9, 3))], [(144, (.ldc2_w 227, 3)), (147, (.goto 6, 3)), (150, (.ldc2_w 441, 3)), (153, (.lcmp, 1)), (154, (.ifCond .le 11, 3)), (157, (.aload_n 0, 1)), (158, (.iconst 4, 1)), (159, (.invokevirtual 243, 3))], [(162, (.goto 29, 3)), (165, (.aload_n 0, 1)), (166, (.getfield 184, 3)), (169, (.iload_n 1, 1)), (170, (.aload_n 0, 1)), (171, (.getfield 30, 3)), (174, (.aload_n 0, 1)), (175, (.getfield 234, 3))], [(178, (.laload, 1)), (179, (.l2i, 1)), (180, (.iastore, 1)), (181, (.aload_n 0, 1)), (182, (.dup, 1)), (183, (.getfield 234, 3)), (186, (.iconst 1, 1)), (187, (.iadd, 1)), (188, (.putfield 234, 3)), (191, (.aload_n 0, 1))], [(192, (.bipush 59, 2)), (194, (.invokevirtual 366, 3)), (197, (.return_, 1))]]
set_option maxRecDepth 100000 in
def pmc_280 : pm_T (Instr × Nat) := [[(0, (.aload_n 0, 1)), (1, (.iconst 0, 1)), (2, (.putfield 1, 3)), (5, (.iload_n 1, 1)), (6, (.invokestatic 435, 3)), (9, (.ifCond .eq 33, 3)), (12, (.aload_n 0, 1)), (13, (.iload_n 2, 1)), (14, (.invokevirtual 257, 3))], [(17, (.ifCond .eq 25, 3)), (20, (.aload_n 0, 1)), (21, (.iload_n 1, 1)), (22, (.iload_n 2, 1)), (23, (.aload_n 0, 1)), (24, (.iload_n 1, 1)), (25, (.invokevirtual 446, 3)), (28, (.invokevirtual 449, 3)), (31, (.ifCond .eq 7, 3))], [(34, (.iconst 1, 1)), (35, (.goto 8, 3)), (38, (.iconst 0, 1)), (39, (.goto 4, 3)), (42, (.iconst (-1), 1)), (43, (.ireturn, 1))]]
set_option maxRecDepth 100000 in
def pmc_281 : pm_T (Instr × Nat) := [[(0, (.aload_n 0, 1)), (1, (.getfield 181, 3)), (4, (.iload_n 1, 1)), (5, (.iaload, 1)), (6, (.ifCond .ge 10, 3)), (9, (.aload_n 0, 1)), (10, (.getfield 208, 3)), (13, (.goto 9, 3))], [(16, (.aload_n 0, 1)), (17, (.getfield 181, 3)), (20, (.iload_n 1, 1)), (21, (.iaload, 1)), (22, (.ireturn, 1))]]
set_option maxRecDepth 100000 in
def pmc_282 : pm_T (Instr × Nat) := [[(0, (.aload_n 0, 1)), (1, (.getfield 172, 3)), (4, (.iload_n 1, 1)), (5, (.iaload, 1)), (6, (.ifCond .ge 5, 3)), (9, (.iconst 1, 1)), (10, (.ireturn, 1)), (11, (.bipush 12, 2)), (13, (.iload_n 2, 1)), (14, (.imul, 1)), (15, (.aload_n 0, 1))], [(16, (.getfield 175, 3)), (19, (.iload_n 1, 1)), (20, (.iaload, 1)), (21, (.iadd, 1)), (22, (.istore 4, 2)), (24, (.aload_n 0, 1)), (25, (.getfield 148, 3)), (28, (.iconst 0, 1)), (29, (.aload_n 0, 1)), (30, (.getfield 97, 3))], [(33, (.iload_n 2, 1)), (34, (.iaload, 1)), (35, (.iastore, 1)), (36, (.aload_n 0, 1)), (37, (.getfield 148, 3)), (40, (.iconst 1, 1)), (41, (.aload_n 0, 1)), (42, (.getfield 100, 3)), (45, (.iload_n 2, 1)), (46, (.iaload, 1)), (47, (.iastore, 1))], [(48, (.aload_n 0, 1)), (49, (.getfield 148, 3)), (52, (.iconst 2, 1)), (53, (.aload_n 0, 1)), (54, (.getfield 103, 3)), (57, (.iload_n 2, 1)), (58, (.iaload, 1)), (59, (.iastore, 1)), (60, (.aload_n 0, 1)), (61, (.getfield 148, 3))], [(64, (.iconst 3, 1)), (65, (.aload_n 0, 1)), (66, (.getfield 106, 3)), (69, (.iload_n 2, 1)), (70, (.baload, 1)), (71, (.ifCond .eq 7, 3)), (74, (.iconst 1, 1)), (75, (.goto 4, 3)), (78, (.iconst 0, 1)), (79, (.iastore, 1))], [(80, (.aload_n 0, 1)), (81, (.getfield 148, 3)), (84, (.iconst 4, 1)), (85, (.aload_n 0, 1)), (86, (.iload_n 2, 1)), (87, (.iconst 0, 1)), (88, (.invokevirtual 443, 3)), (91, (.iastore, 1)), (92, (.aload_n 0, 1)), (93, (.getfield 148, 3))], [(96, (.iconst 5, 1)), (97, (.aload_n 0, 1)), (98, (.iload_n 2, 1)), (99, (.iconst 2, 1)), (100, (.invokevirtual 443, 3)), (103, (.iastore, 1)), (104, (.aload_n 0, 1)), (105, (.getfield 148, 3)), (108, (.bipush 6, 2)), (110, (.aload_n 0, 1)), (111, (.getfield 100, 3))], [(114, (.iload_n 2, 1)), (115, (.iaload, 1)), (116, (.aload_n 0, 1)), (117, (.getfield 109, 3)), (120, (.bipush 12, 2)), (122, (.aload_n 0, 1)), (123, (.getfield 97, 3)), (126, (.iload_n 2, 1)), (127, (.iaload, 1))], [(128, (.imul, 1)), (129, (.aload_n 0, 1)), (130, (.getfield 178, 3)), (133, (.iload_n 1, 1)), (134, (.iaload, 1)), (135, (.iadd, 1)), (136, (.iaload, 1)), (137, (.if_icmp .ge 7, 3)), (140, (.iconst 1, 1)), (141, (.goto 4, 3))], [(144, (.iconst 0, 1)), (145, (.iastore, 1)), (146, (.aload_n 0, 1)), (147, (.getfield 148, 3)), (150, (.bipush 7, 2)), (152, (.bipush 10, 2)), (154, (.aload_n 0, 1)), (155, (.getfield 118, 3)), (158, (.iload 4, 2))], [(160, (.iaload, 1)), (161, (.imul, 1)), (162, (.iload_n 3, 1)), (163, (.aload_n 0, 1)), (164, (.getfield 121, 3)), (167, (.iload 4, 2)), (169, (.iaload, 1)), (170, (.imul, 1)), (171, (.iadd, 1)), (172, (.iastore, 1)), (173, (.aload_n 0, 1)), (174, (.getfield 148, 3))], [(177, (.bipush 8, 2)), (179, (.iload_n 2, 1)), (180, (.iastore, 1)), (181, (.aload_n 0, 1)), (182, (.sipush 1100, 3)), (185, (.iconst 5, 1)), (186, (.iload_n 1, 1)), (187, (.iadd, 1)), (188, (.imul, 1)), (189, (.aload_n 0, 1)), (190, (.getfield 172, 3))], [(193, (.iload_n 1, 1)), (194, (.iaload, 1)), (195, (.iadd, 1)), (196, (.invokevirtual 388, 3)), (199, (.ifCond .eq 7, 3)), (202, (.iconst 1, 1)), (203, (.goto 4, 3)), (206, (.iconst 0, 1)), (207, (.ireturn, 1))]]
set_option maxRecDepth 100000 in
def pmc_283 : pm_T (Instr × Nat) := [[(0, (.iconst 0, 1)), (1, (.istore_n 3, 1)), (2, (.iconst 0, 1)), (3, (.istore 4, 2)), (5, (.iload 4, 2)), (7, (.bipush 12, 2)), (9, (.if_icmp .ge 33, 3)), (12, (.iload_n 3, 1)), (13, (.aload_n 0, 1)), (14, (.getfield 115, 3))], [(17, (.bipush 12, 2)), (19, (.iload_n 1, 1)), (20, (.imul, 1)), (21, (.iload 4, 2)), (23, (.iadd, 1)), (24, (.iaload, 1)), (25, (.iload_n 2, 1)), (26, (.if_icmp .ne 7, 3)), (29, (.iconst 1, 1)), (30, (.goto 4, 3))], [(33, (.iconst 0, 1)), (34, (.iadd, 1)), (35, (.istore_n 3, 1)), (36, (.iinc 4 1, 3)), (39, (.goto (-34), 3)), (42, (.iload_n 3, 1)), (43, (.ireturn, 1))]]
set_option maxRecDepth 100000 in
def pmc_284 : pm_T (Instr × Nat) := [[(0, (.aload_n 0, 1)), (1, (.iload_n 1, 1)), (2, (.invokestatic 435, 3)), (5, (.ifCond .eq 27, 3)), (8, (.iload_n 2, 1)), (9, (.invokestatic 315, 3)), (12, (.ifCond .eq 20, 3)), (15, (.aload_n 0, 1))], [(16, (.iload_n 1, 1)), (17, (.aload_n 0, 1)), (18, (.iload_n 1, 1)), (19, (.invokevirtual 446, 3)), (22, (.invokevirtual 452, 3)), (25, (.ifCond .eq 7, 3)), (28, (.iconst 0, 1)), (29, (.goto 4, 3))], [(32, (.iconst 1, 1)), (33, (.putfield 1, 3)), (36, (.aload_n 0, 1)), (37, (.getfield 1, 3)), (40, (.ifCond .le 7, 3)), (43, (.lconst 0, 1)), (44, (.goto 8, 3)), (47, (.aload_n 0, 1))], [(48, (.iload_n 2, 1)), (49, (.invokevirtual 321, 3)), (52, (.lreturn, 1))]]
set_option maxRecDepth 100000 in
def pmc_285 : pm_T (Instr × Nat) := [[(0, (.aload_n 0, 1)), (1, (.invokevirtual 304, 3)), (4, (.iconst 0, 1)), (5, (.istore_n 3, 1)), (6, (.iload_n 3, 1)), (7, (.bipush 24, 2)), (9, (.if_icmp .ge 120, 3)), (12, (.aload_n 0, 1)), (13, (.iload_n 3, 1)), (14, (.aload_n 0, 1)), (15, (.getfield 175, 3))], [(18, (.iload_n 1, 1)), (19, (.iaload, 1)), (20, (.aload_n 0, 1)), (21, (.getfield 178, 3)), (24, (.iload_n 1, 1)), (25, (.iaload, 1)), (26, (.invokevirtual 274, 3)), (29, (.ifCond .eq 94, 3))], [(32, (.aload_n 0, 1)), (33, (.iload_n 1, 1)), (34, (.iload_n 3, 1)), (35, (.iload_n 2, 1)), (36, (.invokevirtual 449, 3)), (39, (.ifCond .eq 84, 3)), (42, (.bipush 12, 2)), (44, (.iload_n 3, 1)), (45, (.imul, 1)), (46, (.aload_n 0, 1)), (47, (.getfield 175, 3))], [(50, (.iload_n 1, 1)), (51, (.iaload, 1)), (52, (.iadd, 1)), (53, (.istore 4, 2)), (55, (.bipush 12, 2)), (57, (.iload_n 3, 1)), (58, (.imul, 1)), (59, (.aload_n 0, 1)), (60, (.getfield 178, 3)), (63, (.iload_n 1, 1))], [(64, (.iaload, 1)), (65, (.iadd, 1)), (66, (.istore 5, 2)), (68, (.aload_n 0, 1)), (69, (.aload_n 0, 1)), (70, (.getfield 97, 3)), (73, (.iload_n 3, 1)), (74, (.iaload, 1)), (75, (.ifCond .ne 7, 3)), (78, (.iconst 1, 1)), (79, (.goto 4, 3))], [(82, (.iconst 0, 1)), (83, (.bipush 10, 2)), (85, (.aload_n 0, 1)), (86, (.getfield 118, 3)), (89, (.iload 5, 2)), (91, (.iaload, 1)), (92, (.aload_n 0, 1)), (93, (.getfield 118, 3))], [(96, (.iload 4, 2)), (98, (.iaload, 1)), (99, (.isub, 1)), (100, (.imul, 1)), (101, (.iload_n 2, 1)), (102, (.aload_n 0, 1)), (103, (.getfield 121, 3)), (106, (.iload 5, 2)), (108, (.iaload, 1)), (109, (.aload_n 0, 1)), (110, (.getfield 121, 3))], [(113, (.iload 4, 2)), (115, (.iaload, 1)), (116, (.isub, 1)), (117, (.imul, 1)), (118, (.iadd, 1)), (119, (.i2l, 1)), (120, (.invokevirtual 307, 3)), (123, (.iinc 3 1, 3)), (126, (.goto (-120), 3))], [(129, (.aload_n 0, 1)), (130, (.getfield 175, 3)), (133, (.iload_n 1, 1)), (134, (.iaload, 1)), (135, (.aload_n 0, 1)), (136, (.getfield 178, 3)), (139, (.iload_n 1, 1)), (140, (.iaload, 1)), (141, (.if_icmp .eq 14, 3))], [(144, (.aload_n 0, 1)), (145, (.invokevirtual 311, 3)), (148, (.ifCond .eq 7, 3)), (151, (.iconst 1, 1)), (152, (.goto 4, 3)), (155, (.iconst 0, 1)), (156, (.ireturn, 1))]]
set_option maxRecDepth 100000 in
def pmc_286 : pm_T (Instr × Nat) := [[(0, (.aload_n 0, 1)), (1, (.iload_n 1, 1)), (2, (.iconst 0, 1)), (3, (.bipush 6, 2)), (5, (.invokestatic 253, 3)), (8, (.ifCond .eq 7, 3)), (11, (.iconst 0, 1)), (12, (.goto 4, 3)), (15, (.iconst 1, 1))], [(16, (.putfield 1, 3)), (19, (.lconst 0, 1)), (20, (.lstore_n 2, 1)), (21, (.lconst 0, 1)), (22, (.lstore 4, 2)), (24, (.lconst 0, 1)), (25, (.lstore 6, 2)), (27, (.lconst 0, 1)), (28, (.lstore 8, 2)), (30, (.lconst 1, 1)), (31, (.lstore 10, 2))], [(33, (.lconst 0, 1)), (34, (.lstore 12, 2)), (36, (.lconst 1, 1)), (37, (.lstore 14, 2)), (39, (.iconst 0, 1)), (40, (.istore 16, 2)), (42, (.iload 16, 2)), (44, (.bipush 44, 2)), (46, (.if_icmp .ge 140, 3))], [(49, (.aload_n 0, 1)), (50, (.iload 16, 2)), (52, (.bipush 11, 2)), (54, (.idiv, 1)), (55, (.iload 16, 2)), (57, (.bipush 11, 2)), (59, (.irem, 1)), (60, (.invokevirtual 452, 3)), (63, (.ifCond .eq 117, 3))], [(66, (.lload_n 2, 1)), (67, (.lconst 0, 1)), (68, (.lcmp, 1)), (69, (.ifCond .eq 21, 3)), (72, (.aload_n 0, 1)), (73, (.getfield 281, 3)), (76, (.lload 10, 2)), (78, (.lmul, 1)), (79, (.lload 8, 2))], [(81, (.aload_n 0, 1)), (82, (.getfield 285, 3)), (85, (.lmul, 1)), (86, (.lcmp, 1)), (87, (.ifCond .ge 15, 3)), (90, (.aload_n 0, 1)), (91, (.getfield 281, 3)), (94, (.lstore 8, 2))], [(96, (.aload_n 0, 1)), (97, (.getfield 285, 3)), (100, (.lstore 10, 2)), (102, (.lload_n 2, 1)), (103, (.lconst 0, 1)), (104, (.lcmp, 1)), (105, (.ifCond .eq 21, 3)), (108, (.aload_n 0, 1)), (109, (.getfield 281, 3))], [(112, (.lload 14, 2)), (114, (.lmul, 1)), (115, (.lload 12, 2)), (117, (.aload_n 0, 1)), (118, (.getfield 285, 3)), (121, (.lmul, 1)), (122, (.lcmp, 1)), (123, (.ifCond .le 15, 3)), (126, (.aload_n 0, 1)), (127, (.getfield 281, 3))], [(130, (.lstore 12, 2)), (132, (.aload_n 0, 1)), (133, (.getfield 285, 3)), (136, (.lstore 14, 2)), (138, (.lload_n 2, 1)), (139, (.lconst 1, 1)), (140, (.ladd, 1)), (141, (.lstore_n 2, 1)), (142, (.lload 4, 2))], [(144, (.aload_n 0, 1)), (145, (.getfield 281, 3)), (148, (.lconst 0, 1)), (149, (.lcmp, 1)), (150, (.ifCond .ge 7, 3)), (153, (.lconst 1, 1)), (154, (.goto 4, 3)), (157, (.lconst 0, 1)), (158, (.ladd, 1)), (159, (.lstore 4, 2))], [(161, (.lload 6, 2)), (163, (.aload_n 0, 1)), (164, (.getfield 281, 3)), (167, (.lconst 0, 1)), (168, (.lcmp, 1)), (169, (.ifCond .le 7, 3)), (172, (.lconst 1, 1)), (173, (.goto 4, 3))], [(176, (.lconst 0, 1)), (177, (.ladd, 1)), (178, (.lstore 6, 2)), (180, (.iinc 16 1, 3)), (183, (.goto (-141), 3)), (186, (.aload_n 0, 1)), (187, (.aload_n 0, 1)), (188, (.getfield 1, 3)), (191, (.ifCond .gt 14, 3))], [(194, (.iload_n 1, 1)), (195, (.iconst 2, 1)), (196, (.if_icmp .le 13, 3)), (199, (.lload_n 2, 1)), (200, (.lconst 0, 1)), (201, (.lcmp, 1)), (202, (.ifCond .ne 7, 3)), (205, (.iconst 1, 1)), (206, (.goto 4, 3))], [(209, (.iconst 0, 1)), (210, (.putfield 1, 3)), (213, (.aload_n 0, 1)), (214, (.getfield 1, 3)), (217, (.ifCond .le 5, 3)), (220, (.lconst 0, 1)), (221, (.lreturn, 1)), (222, (.aload_n 0, 1)), (223, (.iload_n 1, 1))], [(224, (.iconst 5, 1)), (225, (.if_icmp .ge 8, 3)), (228, (.lload 8, 2)), (230, (.goto 5, 3)), (233, (.lload 12, 2)), (235, (.putfield 281, 3)), (238, (.aload_n 0, 1)), (239, (.iload_n 1, 1))], [(240, (.iconst 5, 1)), (241, (.if_icmp .ge 8, 3)), (244, (.lload 10, 2)), (246, (.goto 5, 3)), (249, (.lload 14, 2)), (251, (.putfield 285, 3)), (254, (.iload_n 1, 1)), (255, (.ifCond .ne 7, 3))], [(258, (.lload_n 2, 1)), (259, (.goto 39, 3)), (262, (.iload_n 1, 1)), (263, (.iconst 1, 1)), (264, (.if_icmp .ne 8, 3)), (267, (.lload 4, 2)), (269, (.goto 29, 3))], [(272, (.iload_n 1, 1)), (273, (.iconst 2, 1)), (274, (.if_icmp .ne 8, 3)), (277, (.lload 6, 2)), (279, (.goto 19, 3)), (282, (.aload_n 0, 1)), (283, (.iload_n 1, 1)), (284, (.iconst 2, 1)), (285, (.irem, 1)), (286, (.iconst 1, 1)), (287, (.if_icmp .ne 7, 3))], [(290, (.iconst 0, 1)), (291, (.goto 4, 3)), (294, (.iconst 1, 1)), (295, (.invokevirtual 321, 3)), (298, (.lreturn, 1))]]
set_option maxRecDepth 100000 in
def pmc_287 : pm_T (Instr × Nat) := [[(0, (.aload_n 0, 1)), (1, (.iconst 0, 1)), (2, (.putfield 1, 3)), (5, (.aload_n 0, 1)), (6, (.iload_n 1, 1)), (7, (.invokevirtual 257, 3)), (10, (.ifCond .eq 33, 3)), (13, (.iload_n 2, 1)), (14, (.invokestatic 260, 3))], [(17, (.ifCond .eq 26, 3)), (20, (.iload_n 3, 1)), (21, (.iconst 0, 1)), (22, (.sipush 999, 3)), (25, (.invokestatic 253, 3)), (28, (.ifCond .eq 15, 3)), (31, (.iload 4, 2))], [(33, (.iconst 0, 1)), (34, (.ldc_w 455, 3)), (37, (.invokestatic 253, 3)), (40, (.ifCond .ne 5, 3)), (43, (.iconst 0, 1)), (44, (.ireturn, 1)), (45, (.aload_n 0, 1)), (46, (.getfield 187, 3))], [(49, (.bipush 12, 2)), (51, (.iload_n 1, 1)), (52, (.imul, 1)), (53, (.iload_n 2, 1)), (54, (.iadd, 1)), (55, (.iload_n 3, 1)), (56, (.iastore, 1)), (57, (.aload_n 0, 1)), (58, (.getfield 190, 3)), (61, (.bipush 12, 2)), (63, (.iload_n 1, 1))], [(64, (.imul, 1)), (65, (.iload_n 2, 1)), (66, (.iadd, 1)), (67, (.iload 4, 2)), (69, (.iastore, 1)), (70, (.iconst 1, 1)), (71, (.ireturn, 1))]]
set_option maxRecDepth 100000 in
def pmc_288 : pm_T (Instr × Nat) := [[(0, (.aload_n 0, 1)), (1, (.iload_n 1, 1)), (2, (.invokevirtual 257, 3)), (5, (.ifCond .eq 23, 3)), (8, (.iload_n 2, 1)), (9, (.invokestatic 260, 3)), (12, (.ifCond .eq 16, 3)), (15, (.iload_n 3, 1))], [(16, (.iconst 0, 1)), (17, (.iconst 2, 1)), (18, (.invokestatic 253, 3)), (21, (.ifCond .eq 7, 3)), (24, (.iconst 1, 1)), (25, (.goto 4, 3)), (28, (.iconst 0, 1)), (29, (.istore 4, 2)), (31, (.aload_n 0, 1))], [(32, (.iload 4, 2)), (34, (.ifCond .eq 25, 3)), (37, (.iload_n 3, 1)), (38, (.ifCond .eq 17, 3)), (41, (.aload_n 0, 1)), (42, (.getfield 115, 3)), (45, (.bipush 12, 2)), (47, (.iload_n 1, 1))], [(48, (.imul, 1)), (49, (.iload_n 2, 1)), (50, (.iadd, 1)), (51, (.iaload, 1)), (52, (.ifCond .eq 7, 3)), (55, (.iconst 0, 1)), (56, (.goto 4, 3)), (59, (.iconst 1, 1)), (60, (.putfield 1, 3)), (63, (.aload_n 0, 1))], [(64, (.getfield 1, 3)), (67, (.ifCond .le 5, 3)), (70, (.lconst 0, 1)), (71, (.lreturn, 1)), (72, (.iload_n 3, 1)), (73, (.ifCond .ne 12, 3)), (76, (.aload_n 0, 1)), (77, (.iload_n 1, 1)), (78, (.iload_n 2, 1)), (79, (.invokevirtual 456, 3))], [(82, (.goto 23, 3)), (85, (.iload_n 3, 1)), (86, (.iconst 1, 1)), (87, (.if_icmp .ne 12, 3)), (90, (.aload_n 0, 1)), (91, (.iload_n 1, 1)), (92, (.iload_n 2, 1)), (93, (.invokevirtual 459, 3))], [(96, (.goto 9, 3)), (99, (.aload_n 0, 1)), (100, (.iload_n 1, 1)), (101, (.iload_n 2, 1)), (102, (.invokevirtual 462, 3)), (105, (.lreturn, 1))]]
set_option maxRecDepth 100000 in
def pmc_289 : pm_T (Instr × Nat) := [[(0, (.aload_n 0, 1)), (1, (.getfield 109, 3)), (4, (.bipush 12, 2)), (6, (.aload_n 0, 1)), (7, (.getfield 97, 3)), (10, (.iload_n 1, 1)), (11, (.iaload, 1)), (12, (.imul, 1)), (13, (.iload_n 2, 1)), (14, (.iadd, 1)), (15, (.iaload, 1))], [(16, (.istore_n 3, 1)), (17, (.iload_n 3, 1)), (18, (.aload_n 0, 1)), (19, (.getfield 100, 3)), (22, (.iload_n 1, 1)), (23, (.iaload, 1)), (24, (.if_icmp .le 8, 3)), (27, (.iload_n 3, 1)), (28, (.i2l, 1)), (29, (.goto 10, 3))], [(32, (.aload_n 0, 1)), (33, (.getfield 100, 3)), (36, (.iload_n 1, 1)), (37, (.iaload, 1)), (38, (.i2l, 1)), (39, (.lreturn, 1))]]
set_option maxRecDepth 100000 in
def pmc_290 : pm_T (Instr × Nat) := [[(0, (.aload_n 0, 1)), (1, (.iload_n 1, 1)), (2, (.iload_n 2, 1)), (3, (.invokevirtual 267, 3)), (6, (.i2l, 1)), (7, (.aload_n 0, 1)), (8, (.getfield 187, 3)), (11, (.bipush 12, 2)), (13, (.iload_n 1, 1)), (14, (.imul, 1)), (15, (.iload_n 2, 1))], [(16, (.iadd, 1)), (17, (.iaload, 1)), (18, (.i2l, 1)), (19, (.lmul, 1)), (20, (.aload_n 0, 1)), (21, (.iload_n 1, 1)), (22, (.iload_n 2, 1)), (23, (.invokevirtual 456, 3)), (26, (.lmul, 1)), (27, (.lreturn, 1))]]
set_option maxRecDepth 100000 in
def pmc_291 : pm_T (Instr × Nat) := [[(0, (.ldc2_w 227, 3)), (3, (.aload_n 0, 1)), (4, (.getfield 190, 3)), (7, (.bipush 12, 2)), (9, (.iload_n 1, 1)), (10, (.imul, 1)), (11, (.iload_n 2, 1)), (12, (.iadd, 1)), (13, (.iaload, 1)), (14, (.i2l, 1)), (15, (.lmul, 1))], [(16, (.aload_n 0, 1)), (17, (.iload_n 1, 1)), (18, (.iload_n 2, 1)), (19, (.invokevirtual 459, 3)), (22, (.lsub, 1)), (23, (.lreturn, 1))]]
set_option maxRecDepth 100000 in
def pmc_292 : pm_T (Instr × Nat) := [[(0, (.aload_n 0, 1)), (1, (.iload_n 1, 1)), (2, (.iconst 0, 1)), (3, (.iconst 1, 1)), (4, (.invokestatic 253, 3)), (7, (.ifCond .eq 25, 3)), (10, (.iload_n 2, 1)), (11, (.iload_n 3, 1)), (12, (.invokestatic 270, 3)), (15, (.ifCond .eq 17, 3))], [(18, (.iload 4, 2)), (20, (.iconst 0, 1)), (21, (.iconst 5, 1)), (22, (.invokestatic 253, 3)), (25, (.ifCond .eq 7, 3)), (28, (.iconst 0, 1)), (29, (.goto 4, 3))], [(32, (.iconst 1, 1)), (33, (.putfield 1, 3)), (36, (.lconst 0, 1)), (37, (.lstore 5, 2)), (39, (.iconst 0, 1)), (40, (.istore 7, 2)), (42, (.iload 7, 2)), (44, (.bipush 24, 2)), (46, (.if_icmp .ge 57, 3))], [(49, (.aload_n 0, 1)), (50, (.getfield 1, 3)), (53, (.ifCond .ne 50, 3)), (56, (.lload 5, 2)), (58, (.aload_n 0, 1)), (59, (.iload 7, 2)), (61, (.iload_n 2, 1)), (62, (.iload_n 3, 1)), (63, (.invokevirtual 274, 3))], [(66, (.ifCond .eq 27, 3)), (69, (.aload_n 0, 1)), (70, (.getfield 97, 3)), (73, (.iload 7, 2)), (75, (.iaload, 1)), (76, (.iload_n 1, 1)), (77, (.if_icmp .ne 16, 3))], [(80, (.aload_n 0, 1)), (81, (.iload 7, 2)), (83, (.iload_n 2, 1)), (84, (.iload_n 3, 1)), (85, (.iload 4, 2)), (87, (.invokevirtual 465, 3)), (90, (.goto 4, 3)), (93, (.lconst 0, 1)), (94, (.ladd, 1)), (95, (.lstore 5, 2))], [(97, (.iinc 7 1, 3)), (100, (.goto (-58), 3)), (103, (.lload 5, 2)), (105, (.lreturn, 1))]]
set_option maxRecDepth 100000 in
def pmc_293 : pm_T (Instr × Nat) := [[(0, (.aload_n 0, 1)), (1, (.iload_n 1, 1)), (2, (.iload_n 2, 1)), (3, (.invokevirtual 267, 3)), (6, (.i2l, 1)), (7, (.lstore 5, 2)), (9, (.aload_n 0, 1)), (10, (.iload_n 1, 1)), (11, (.iload_n 3, 1)), (12, (.invokevirtual 267, 3)), (15, (.i2l, 1))], [(16, (.lstore 7, 2)), (18, (.aload_n 0, 1)), (19, (.getfield 187, 3)), (22, (.bipush 12, 2)), (24, (.iload_n 1, 1)), (25, (.imul, 1)), (26, (.iload_n 2, 1)), (27, (.iadd, 1)), (28, (.iaload, 1)), (29, (.i2l, 1)), (30, (.lstore 9, 2))], [(32, (.aload_n 0, 1)), (33, (.getfield 187, 3)), (36, (.bipush 12, 2)), (38, (.iload_n 1, 1)), (39, (.imul, 1)), (40, (.iload_n 3, 1)), (41, (.iadd, 1)), (42, (.iaload, 1)), (43, (.i2l, 1)), (44, (.lstore 11, 2)), (46, (.iload 4, 2))], [(48, (.tableswitch 131 0 4 #[36, 50, 66, 82, 102], 36))], [], [(84, (.aload_n 0, 1)), (85, (.iload_n 1, 1)), (86, (.iload_n 3, 1)), (87, (.invokevirtual 459, 3)), (90, (.aload_n 0, 1)), (91, (.iload_n 1, 1)), (92, (.iload_n 2, 1)), (93, (.invokevirtual 459, 3))], [(96, (.lsub, 1)), (97, (.lreturn, 1)), (98, (.lload 7, 2)), (100, (.lload 5, 2)), (102, (.lsub, 1)), (103, (.lload 9, 2)), (105, (.lmul, 1)), (106, (.aload_n 0, 1)), (107, (.iload_n 1, 1)), (108, (.iload_n 2, 1)), (109, (.invokevirtual 456, 3))], [(112, (.lmul, 1)), (113, (.lreturn, 1)), (114, (.lload 7, 2)), (116, (.lload 11, 2)), (118, (.lload 9, 2)), (120, (.lsub, 1)), (121, (.lmul, 1)), (122, (.aload_n 0, 1)), (123, (.iload_n 1, 1)), (124, (.iload_n 2, 1)), (125, (.invokevirtual 456, 3))], [(128, (.lmul, 1)), (129, (.lreturn, 1)), (130, (.lload 7, 2)), (132, (.lload 11, 2)), (134, (.lmul, 1)), (135, (.aload_n 0, 1)), (136, (.iload_n 1, 1)), (137, (.iload_n 3, 1)), (138, (.invokevirtual 456, 3)), (141, (.aload_n 0, 1)), (142, (.iload_n 1, 1)), (143, (.iload_n 2, 1))], [(144, (.invokevirtual 456, 3)), (147, (.lsub, 1)), (148, (.lmul, 1)), (149, (.lreturn, 1)), (150, (.ldc2_w 227, 3)), (153, (.aload_n 0, 1)), (154, (.getfield 190, 3)), (157, (.bipush 12, 2)), (159, (.iload_n 1, 1))], [(160, (.imul, 1)), (161, (.iload_n 3, 1)), (162, (.iadd, 1)), (163, (.iaload, 1)), (164, (.aload_n 0, 1)), (165, (.getfield 190, 3)), (168, (.bipush 12, 2)), (170, (.iload_n 1, 1)), (171, (.imul, 1)), (172, (.iload_n 2, 1)), (173, (.iadd, 1)), (174, (.iaload, 1)), (175, (.isub, 1))], [(176, (.i2l, 1)), (177, (.lmul, 1)), (178, (.lreturn, 1)), (179, (.aload_n 0, 1)), (180, (.iload_n 1, 1)), (181, (.iload_n 3, 1)), (182, (.invokevirtual 462, 3)), (185, (.aload_n 0, 1)), (186, (.iload_n 1, 1)), (187, (.iload_n 2, 1)), (188, (.invokevirtual 462, 3)), (191, (.lsub, 1))], [(192, (.lreturn, 1))]]
set_option maxRecDepth 100000 in
def pmc_294 : pm_T (Instr × Nat) := [[(0, (.aload_n 0, 1)), (1, (.iconst 0, 1)), (2, (.putfield 1, 3)), (5, (.iload_n 3, 1)), (6, (.iconst 1, 1)), (7, (.bipush 9, 2)), (9, (.invokestatic 253, 3)), (12, (.ifCond .eq 40, 3)), (15, (.iload 4, 2))], [(17, (.invokestatic 315, 3)), (20, (.ifCond .eq 32, 3)), (23, (.aload_n 0, 1)), (24, (.iload_n 1, 1)), (25, (.iload_n 2, 1)), (26, (.invokevirtual 482, 3)), (29, (.ifCond .eq 23, 3))], [(32, (.iload_n 3, 1)), (33, (.i2l, 1)), (34, (.aload_n 0, 1)), (35, (.getfield 295, 3)), (38, (.lcmp, 1)), (39, (.ifCond .gt 13, 3)), (42, (.iload_n 3, 1)), (43, (.i2l, 1)), (44, (.aload_n 0, 1)), (45, (.getfield 301, 3))], [(48, (.lcmp, 1)), (49, (.ifCond .le 7, 3)), (52, (.ldc2_w 338, 3)), (55, (.lreturn, 1)), (56, (.aload_n 0, 1)), (57, (.iload_n 3, 1)), (58, (.invokevirtual 485, 3)), (61, (.aload_n 0, 1)), (62, (.iload 4, 2))], [(64, (.invokevirtual 321, 3)), (67, (.lreturn, 1))]]
set_option maxRecDepth 100000 in
def pmc_295 : pm_T (Instr × Nat) := [[(0, (.iload_n 1, 1)), (1, (.iload_n 2, 1)), (2, (.invokestatic 270, 3)), (5, (.ifCond .eq 35, 3)), (8, (.aload_n 0, 1)), (9, (.iload_n 1, 1)), (10, (.iload_n 2, 1)), (11, (.iconst (-1), 1)), (12, (.invokevirtual 318, 3)), (15, (.ifCond .eq 25, 3))], [(18, (.aload_n 0, 1)), (19, (.getfield 295, 3)), (22, (.ldc2_w 469, 3)), (25, (.lcmp, 1)), (26, (.ifCond .gt 14, 3)), (29, (.aload_n 0, 1)), (30, (.getfield 301, 3))], [(33, (.ldc2_w 469, 3)), (36, (.lcmp, 1)), (37, (.ifCond .le 5, 3)), (40, (.iconst 0, 1)), (41, (.ireturn, 1)), (42, (.iconst 0, 1)), (43, (.istore_n 3, 1)), (44, (.iconst 0, 1)), (45, (.istore 4, 2)), (47, (.iconst 0, 1))], [(48, (.istore 5, 2)), (50, (.iload 5, 2)), (52, (.bipush 24, 2)), (54, (.if_icmp .ge 79, 3)), (57, (.aload_n 0, 1)), (58, (.iload 5, 2)), (60, (.iload_n 1, 1)), (61, (.iload_n 2, 1)), (62, (.invokevirtual 274, 3))], [(65, (.ifCond .eq 33, 3)), (68, (.aload_n 0, 1)), (69, (.getfield 97, 3)), (72, (.iload 5, 2)), (74, (.iaload, 1)), (75, (.ifCond .ne 23, 3)), (78, (.aload_n 0, 1)), (79, (.getfield 193, 3))], [(82, (.iload_n 3, 1)), (83, (.aload_n 0, 1)), (84, (.iload 5, 2)), (86, (.iload_n 1, 1)), (87, (.iload_n 2, 1)), (88, (.invokevirtual 277, 3)), (91, (.iastore, 1)), (92, (.iinc 3 1, 3)), (95, (.goto 32, 3))], [(98, (.aload_n 0, 1)), (99, (.iload 5, 2)), (101, (.iload_n 1, 1)), (102, (.iload_n 2, 1)), (103, (.invokevirtual 274, 3)), (106, (.ifCond .eq 21, 3)), (109, (.aload_n 0, 1)), (110, (.getfield 196, 3))], [(113, (.iload 4, 2)), (115, (.aload_n 0, 1)), (116, (.iload 5, 2)), (118, (.iload_n 1, 1)), (119, (.iload_n 2, 1)), (120, (.invokevirtual 277, 3)), (123, (.iastore, 1)), (124, (.iinc 4 1, 3)), (127, (.iinc 5 1, 3))], [(130, (.goto (-80), 3)), (133, (.iconst 1, 1)), (134, (.ireturn, 1))]]
set_option maxRecDepth 100000 in
def pmc_296 : pm_T (Instr × Nat) := [[(0, (.aload_n 0, 1)), (1, (.getfield 292, 3)), (4, (.aload_n 0, 1)), (5, (.getfield 301, 3)), (8, (.lmul, 1)), (9, (.aload_n 0, 1)), (10, (.getfield 298, 3)), (13, (.aload_n 0, 1)), (14, (.getfield 295, 3))], [(17, (.lmul, 1)), (18, (.lsub, 1)), (19, (.invokestatic 471, 3)), (22, (.istore_n 2, 1)), (23, (.aload_n 0, 1)), (24, (.lconst 0, 1)), (25, (.putfield 281, 3)), (28, (.aload_n 0, 1)), (29, (.lconst 0, 1)), (30, (.putfield 285, 3))], [(33, (.iconst 0, 1)), (34, (.istore_n 3, 1)), (35, (.iload_n 3, 1)), (36, (.iconst 1, 1)), (37, (.aload_n 0, 1)), (38, (.getfield 295, 3)), (41, (.l2i, 1)), (42, (.ishl, 1)), (43, (.if_icmp .ge 100, 3)), (46, (.iload_n 3, 1)), (47, (.invokestatic 475, 3))], [(50, (.iload_n 1, 1)), (51, (.if_icmp .ne 86, 3)), (54, (.aload_n 0, 1)), (55, (.getfield 193, 3)), (58, (.iload_n 3, 1)), (59, (.invokestatic 478, 3)), (62, (.lstore 4, 2))], [(64, (.iconst 0, 1)), (65, (.istore 6, 2)), (67, (.iload 6, 2)), (69, (.iconst 1, 1)), (70, (.aload_n 0, 1)), (71, (.getfield 301, 3)), (74, (.l2i, 1)), (75, (.ishl, 1)), (76, (.if_icmp .ge 61, 3)), (79, (.iload 6, 2))], [(81, (.invokestatic 475, 3)), (84, (.iload_n 1, 1)), (85, (.if_icmp .ne 46, 3)), (88, (.aload_n 0, 1)), (89, (.dup, 1)), (90, (.getfield 285, 3)), (93, (.lconst 1, 1)), (94, (.ladd, 1)), (95, (.putfield 285, 3))], [(98, (.aload_n 0, 1)), (99, (.dup, 1)), (100, (.getfield 281, 3)), (103, (.lload 4, 2)), (105, (.aload_n 0, 1)), (106, (.getfield 196, 3)), (109, (.iload 6, 2)), (111, (.invokestatic 478, 3))], [(114, (.lsub, 1)), (115, (.invokestatic 471, 3)), (118, (.iload_n 2, 1)), (119, (.if_icmp .ne 7, 3)), (122, (.lconst 1, 1)), (123, (.goto 4, 3)), (126, (.lconst 0, 1)), (127, (.ladd, 1))], [(128, (.putfield 281, 3)), (131, (.iinc 6 1, 3)), (134, (.goto (-67), 3)), (137, (.iinc 3 1, 3)), (140, (.goto (-105), 3)), (143, (.return_, 1))]]
set_option maxRecDepth 100000 in
def pmc_297 : pm_T (Instr × Nat) := [[(0, (.lload_n 0, 1)), (1, (.lconst 0, 1)), (2, (.lcmp, 1)), (3, (.ifCond .ge 7, 3)), (6, (.iconst (-1), 1)), (7, (.goto 14, 3)), (10, (.lload_n 0, 1)), (11, (.lconst 0, 1)), (12, (.lcmp, 1)), (13, (.ifCond .le 7, 3))], [(16, (.iconst 1, 1)), (17, (.goto 4, 3)), (20, (.iconst 0, 1)), (21, (.ireturn, 1))]]
set_option maxRecDepth 100000 in
def pmc_298 : pm_T (Instr × Nat) := [[(0, (.iconst 0, 1)), (1, (.istore_n 1, 1)), (2, (.iconst 0, 1)), (3, (.istore_n 2, 1)), (4, (.iload_n 2, 1)), (5, (.bipush 9, 2)), (7, (.if_icmp .ge 17, 3)), (10, (.iload_n 1, 1)), (11, (.iload_n 0, 1)), (12, (.iload_n 2, 1)), (13, (.ishr, 1)), (14, (.iconst 1, 1)), (15, (.iand, 1))], [(16, (.iadd, 1)), (17, (.istore_n 1, 1)), (18, (.iinc 2 1, 3)), (21, (.goto (-17), 3)), (24, (.iload_n 1, 1)), (25, (.ireturn, 1))]]
set_option maxRecDepth 100000 in
def pmc_299 : pm_T (Instr × Nat) := [[(0, (.lconst 0, 1)), (1, (.lstore_n 2, 1)), (2, (.iconst 0, 1)), (3, (.istore 4, 2)), (5, (.iload 4, 2)), (7, (.bipush 9, 2)), (9, (.if_icmp .ge 31, 3)), (12, (.lload_n 2, 1)), (13, (.iload_n 1, 1)), (14, (.iload 4, 2))], [(16, (.ishr, 1)), (17, (.iconst 1, 1)), (18, (.iand, 1)), (19, (.iconst 1, 1)), (20, (.if_icmp .ne 11, 3)), (23, (.aload_n 0, 1)), (24, (.iload 4, 2)), (26, (.iaload, 1)), (27, (.i2l, 1)), (28, (.goto 4, 3)), (31, (.lconst 0, 1))], [(32, (.ladd, 1)), (33, (.lstore_n 2, 1)), (34, (.iinc 4 1, 3)), (37, (.goto (-32), 3)), (40, (.lload_n 2, 1)), (41, (.lreturn, 1))]]
set_option maxRecDepth 100000 in
def pmc_300 : pm_T (Instr × Nat) := [[(0, (.aload_n 0, 1)), (1, (.iconst 0, 1)), (2, (.putfield 1, 3)), (5, (.iload_n 3, 1)), (6, (.iconst 1, 1)), (7, (.bipush 100, 2)), (9, (.invokestatic 253, 3)), (12, (.ifCond .eq 12, 3)), (15, (.aload_n 0, 1))], [(16, (.iload_n 1, 1)), (17, (.iload_n 2, 1)), (18, (.invokevirtual 482, 3)), (21, (.ifCond .ne 5, 3)), (24, (.iconst (-1), 1)), (25, (.ireturn, 1)), (26, (.iconst 1, 1)), (27, (.istore 4, 2)), (29, (.iload 4, 2)), (31, (.i2l, 1))], [(32, (.aload_n 0, 1)), (33, (.getfield 295, 3)), (36, (.lcmp, 1)), (37, (.ifCond .gt 48, 3)), (40, (.iload 4, 2)), (42, (.i2l, 1)), (43, (.aload_n 0, 1)), (44, (.getfield 301, 3)), (47, (.lcmp, 1))], [(48, (.ifCond .gt 37, 3)), (51, (.aload_n 0, 1)), (52, (.iload 4, 2)), (54, (.invokevirtual 485, 3)), (57, (.ldc2_w 488, 3)), (60, (.aload_n 0, 1)), (61, (.getfield 281, 3))], [(64, (.lmul, 1)), (65, (.iload_n 3, 1)), (66, (.i2l, 1)), (67, (.aload_n 0, 1)), (68, (.getfield 285, 3)), (71, (.lmul, 1)), (72, (.lcmp, 1)), (73, (.ifCond .lt 6, 3)), (76, (.iload 4, 2)), (78, (.ireturn, 1)), (79, (.iinc 4 1, 3))], [(82, (.goto (-53), 3)), (85, (.iconst (-1), 1)), (86, (.ireturn, 1))]]
set_option maxRecDepth 100000 in
def pmc_301 : pm_T (Instr × Nat) := [[(0, (.aload_n 0, 1)), (1, (.iconst 0, 1)), (2, (.putfield 1, 3)), (5, (.iload_n 1, 1)), (6, (.invokestatic 260, 3)), (9, (.ifCond .eq 12, 3)), (12, (.iload_n 2, 1)), (13, (.iconst 0, 1)), (14, (.iconst 2, 1)), (15, (.invokestatic 253, 3))], [(18, (.ifCond .ne 5, 3)), (21, (.iconst (-1), 1)), (22, (.ireturn, 1)), (23, (.iconst 0, 1)), (24, (.istore_n 3, 1)), (25, (.iconst 0, 1)), (26, (.istore 4, 2)), (28, (.iconst 0, 1)), (29, (.istore 5, 2)), (31, (.iconst 0, 1))], [(32, (.istore 6, 2)), (34, (.iload 6, 2)), (36, (.bipush 24, 2)), (38, (.if_icmp .ge 114, 3)), (41, (.bipush 12, 2)), (43, (.iload 6, 2)), (45, (.imul, 1)), (46, (.iload_n 1, 1)), (47, (.iadd, 1))], [(48, (.istore 7, 2)), (50, (.aload_n 0, 1)), (51, (.getfield 93, 3)), (54, (.iload 6, 2)), (56, (.baload, 1)), (57, (.ifCond .eq 89, 3)), (60, (.aload_n 0, 1)), (61, (.getfield 115, 3))], [(64, (.iload 7, 2)), (66, (.iaload, 1)), (67, (.ifCond .eq 79, 3)), (70, (.aload_n 0, 1)), (71, (.getfield 124, 3)), (74, (.iload 7, 2)), (76, (.iaload, 1)), (77, (.iconst 1, 1)), (78, (.if_icmp .ne 68, 3))], [(81, (.aload_n 0, 1)), (82, (.iload 6, 2)), (84, (.iload_n 1, 1)), (85, (.invokevirtual 267, 3)), (88, (.aload_n 0, 1)), (89, (.iload 7, 2)), (91, (.invokevirtual 490, 3)), (94, (.isub, 1)), (95, (.istore 8, 2))], [(97, (.iload 8, 2)), (99, (.ifCond .ge 9, 3)), (102, (.iload 8, 2)), (104, (.ineg, 1)), (105, (.goto 5, 3)), (108, (.iload 8, 2)), (110, (.istore 8, 2))], [(112, (.iinc 3 1, 3)), (115, (.iload 4, 2)), (117, (.iload 8, 2)), (119, (.ifCond .le 7, 3)), (122, (.iconst 1, 1)), (123, (.goto 4, 3)), (126, (.iconst 0, 1)), (127, (.iadd, 1))], [(128, (.istore 4, 2)), (130, (.iload 8, 2)), (132, (.iload 5, 2)), (134, (.if_icmp .le 8, 3)), (137, (.iload 8, 2)), (139, (.goto 5, 3)), (142, (.iload 5, 2))], [(144, (.istore 5, 2)), (146, (.iinc 6 1, 3)), (149, (.goto (-115), 3)), (152, (.iload_n 2, 1)), (153, (.ifCond .ne 7, 3)), (156, (.iload_n 3, 1)), (157, (.goto 15, 3))], [(160, (.iload_n 2, 1)), (161, (.iconst 1, 1)), (162, (.if_icmp .ne 8, 3)), (165, (.iload 4, 2)), (167, (.goto 5, 3)), (170, (.iload 5, 2)), (172, (.ireturn, 1))]]
set_option maxRecDepth 100000 in
def pmc_302 : pm_T (Instr × Nat) := [[(0, (.aload_n 0, 1)), (1, (.aload_n 0, 1)), (2, (.getfield 127, 3)), (5, (.iload_n 1, 1)), (6, (.iaload, 1)), (7, (.aload_n 0, 1)), (8, (.getfield 130, 3)), (11, (.iload_n 1, 1)), (12, (.iaload, 1)), (13, (.invokevirtual 263, 3))], [(16, (.ireturn, 1))]]
set_option maxRecDepth 100000 in
def pmc_303 : pm_T (Instr × Nat) := [[(0, (.aload_n 0, 1)), (1, (.iload_n 1, 1)), (2, (.iload_n 2, 1)), (3, (.invokestatic 270, 3)), (6, (.ifCond .eq 16, 3)), (9, (.iload_n 3, 1)), (10, (.iconst 0, 1)), (11, (.iconst 3, 1)), (12, (.invokestatic 253, 3)), (15, (.ifCond .eq 7, 3))], [(18, (.iconst 0, 1)), (19, (.goto 4, 3)), (22, (.iconst 1, 1)), (23, (.putfield 1, 3)), (26, (.aload_n 0, 1)), (27, (.getfield 1, 3)), (30, (.ifCond .le 5, 3))], [(33, (.lconst 0, 1)), (34, (.lreturn, 1)), (35, (.aload_n 0, 1)), (36, (.invokevirtual 304, 3)), (39, (.iconst 0, 1)), (40, (.istore 4, 2)), (42, (.iload 4, 2)), (44, (.bipush 24, 2)), (46, (.if_icmp .ge 170, 3))], [(49, (.aload_n 0, 1)), (50, (.iload 4, 2)), (52, (.iload_n 1, 1)), (53, (.iload_n 2, 1)), (54, (.invokevirtual 274, 3)), (57, (.ifCond .eq 153, 3)), (60, (.bipush 12, 2)), (62, (.iload 4, 2))], [(64, (.imul, 1)), (65, (.iload_n 1, 1)), (66, (.iadd, 1)), (67, (.istore 5, 2)), (69, (.bipush 12, 2)), (71, (.iload 4, 2)), (73, (.imul, 1)), (74, (.iload_n 2, 1)), (75, (.iadd, 1)), (76, (.istore 6, 2)), (78, (.aload_n 0, 1)), (79, (.iload 4, 2))], [(81, (.iload_n 1, 1)), (82, (.iload_n 2, 1)), (83, (.invokevirtual 277, 3)), (86, (.istore 7, 2)), (88, (.aload_n 0, 1)), (89, (.getfield 124, 3)), (92, (.iload 5, 2)), (94, (.iaload, 1)), (95, (.iconst 1, 1))], [(96, (.if_icmp .ne 30, 3)), (99, (.aload_n 0, 1)), (100, (.getfield 124, 3)), (103, (.iload 6, 2)), (105, (.iaload, 1)), (106, (.iconst 1, 1)), (107, (.if_icmp .ne 19, 3)), (110, (.aload_n 0, 1)), (111, (.iload 6, 2))], [(113, (.invokevirtual 490, 3)), (116, (.aload_n 0, 1)), (117, (.iload 5, 2)), (119, (.invokevirtual 490, 3)), (122, (.isub, 1)), (123, (.goto 5, 3)), (126, (.iload 7, 2))], [(128, (.istore 8, 2)), (130, (.iload_n 3, 1)), (131, (.iconst 2, 1)), (132, (.if_icmp .ge 7, 3)), (135, (.iconst 1, 1)), (136, (.goto 4, 3)), (139, (.iconst 0, 1)), (140, (.aload_n 0, 1)), (141, (.getfield 97, 3))], [(144, (.iload 4, 2)), (146, (.iaload, 1)), (147, (.ifCond .ne 7, 3)), (150, (.iconst 1, 1)), (151, (.goto 4, 3)), (154, (.iconst 0, 1)), (155, (.if_icmp .ne 7, 3)), (158, (.iconst 1, 1)), (159, (.goto 4, 3))], [(162, (.iconst 0, 1)), (163, (.istore 9, 2)), (165, (.aload_n 0, 1)), (166, (.aload_n 0, 1)), (167, (.getfield 97, 3)), (170, (.iload 4, 2)), (172, (.iaload, 1)), (173, (.ifCond .ne 7, 3))], [(176, (.iconst 1, 1)), (177, (.goto 4, 3)), (180, (.iconst 0, 1)), (181, (.iload 9, 2)), (183, (.iload 7, 2)), (185, (.iload 8, 2)), (187, (.if_icmp .ge 7, 3)), (190, (.iconst 1, 1)), (191, (.goto 4, 3))], [(194, (.iconst 0, 1)), (195, (.if_icmp .ne 9, 3)), (198, (.iload 7, 2)), (200, (.i2l, 1)), (201, (.goto 6, 3)), (204, (.iload 8, 2)), (206, (.i2l, 1)), (207, (.invokevirtual 307, 3))], [(210, (.iinc 4 1, 3)), (213, (.goto (-171), 3)), (216, (.aload_n 0, 1)), (217, (.aload_n 0, 1)), (218, (.invokevirtual 311, 3)), (221, (.ifCond .eq 7, 3))], [(224, (.iconst 0, 1)), (225, (.goto 4, 3)), (228, (.iconst 1, 1)), (229, (.putfield 1, 3)), (232, (.aload_n 0, 1)), (233, (.getfield 1, 3)), (236, (.ifCond .le 7, 3)), (239, (.lconst 0, 1))], [(240, (.goto 10, 3)), (243, (.aload_n 0, 1)), (244, (.iload_n 3, 1)), (245, (.iconst 2, 1)), (246, (.irem, 1)), (247, (.invokevirtual 321, 3)), (250, (.lreturn, 1))]]
set_option maxRecDepth 100000 in
def pmc_304 : pm_T (Instr × Nat) := [[(0, (.aload_n 0, 1)), (1, (.iconst 0, 1)), (2, (.putfield 1, 3)), (5, (.iload_n 1, 1)), (6, (.invokestatic 315, 3)), (9, (.ifCond .ne 5, 3)), (12, (.iconst (-1), 1)), (13, (.ireturn, 1)), (14, (.iconst (-1), 1)), (15, (.istore_n 2, 1))], [(16, (.iconst 0, 1)), (17, (.istore_n 3, 1)), (18, (.iconst 1, 1)), (19, (.istore 4, 2)), (21, (.iload 4, 2)), (23, (.bipush 12, 2)), (25, (.if_icmp .ge 29, 3)), (28, (.aload_n 0, 1)), (29, (.iload 4, 2)), (31, (.invokevirtual 493, 3))], [(34, (.iload_n 3, 1)), (35, (.if_icmp .le 13, 3)), (38, (.aload_n 0, 1)), (39, (.iload 4, 2)), (41, (.invokevirtual 493, 3)), (44, (.istore_n 3, 1)), (45, (.iload 4, 2)), (47, (.istore_n 2, 1))], [(48, (.iinc 4 1, 3)), (51, (.goto (-30), 3)), (54, (.iload_n 2, 1)), (55, (.ifCond .ge 7, 3)), (58, (.iconst (-1), 1)), (59, (.goto 12, 3)), (62, (.iload_n 1, 1)), (63, (.ifCond .ne 7, 3))], [(66, (.iload_n 2, 1)), (67, (.goto 4, 3)), (70, (.iload_n 3, 1)), (71, (.ireturn, 1))]]
set_option maxRecDepth 100000 in
def pmc_305 : pm_T (Instr × Nat) := [[(0, (.aload_n 0, 1)), (1, (.getfield 109, 3)), (4, (.iload_n 1, 1)), (5, (.iaload, 1)), (6, (.aload_n 0, 1)), (7, (.getfield 109, 3)), (10, (.iload_n 1, 1)), (11, (.iconst 1, 1)), (12, (.isub, 1)), (13, (.iaload, 1)), (14, (.isub, 1)), (15, (.istore_n 2, 1))], [(16, (.aload_n 0, 1)), (17, (.getfield 109, 3)), (20, (.bipush 12, 2)), (22, (.iload_n 1, 1)), (23, (.iadd, 1)), (24, (.iaload, 1)), (25, (.aload_n 0, 1)), (26, (.getfield 109, 3)), (29, (.bipush 12, 2)), (31, (.iload_n 1, 1))], [(32, (.iadd, 1)), (33, (.iconst 1, 1)), (34, (.isub, 1)), (35, (.iaload, 1)), (36, (.isub, 1)), (37, (.istore_n 3, 1)), (38, (.iload_n 2, 1)), (39, (.iload_n 3, 1)), (40, (.if_icmp .ne 5, 3)), (43, (.iconst 0, 1)), (44, (.ireturn, 1)), (45, (.iload_n 2, 1)), (46, (.iload_n 3, 1)), (47, (.if_icmp .le 7, 3))], [(50, (.iconst 0, 1)), (51, (.goto 4, 3)), (54, (.iconst 1, 1)), (55, (.istore 4, 2)), (57, (.iconst 0, 1)), (58, (.istore 5, 2)), (60, (.iconst 0, 1)), (61, (.istore 6, 2)), (63, (.iconst 0, 1))], [(64, (.istore 7, 2)), (66, (.iload 7, 2)), (68, (.bipush 24, 2)), (70, (.if_icmp .ge 97, 3)), (73, (.aload_n 0, 1)), (74, (.iload 7, 2)), (76, (.iload_n 1, 1)), (77, (.iconst 1, 1)), (78, (.isub, 1)), (79, (.iload_n 1, 1))], [(80, (.invokevirtual 274, 3)), (83, (.istore 8, 2)), (85, (.iload 5, 2)), (87, (.iload 8, 2)), (89, (.ifCond .eq 41, 3)), (92, (.aload_n 0, 1)), (93, (.getfield 97, 3))], [(96, (.iload 7, 2)), (98, (.iaload, 1)), (99, (.iload 4, 2)), (101, (.if_icmp .ne 29, 3)), (104, (.aload_n 0, 1)), (105, (.getfield 100, 3)), (108, (.iload 7, 2)), (110, (.iaload, 1)), (111, (.aload_n 0, 1))], [(112, (.getfield 109, 3)), (115, (.bipush 12, 2)), (117, (.iload 4, 2)), (119, (.imul, 1)), (120, (.iload_n 1, 1)), (121, (.iadd, 1)), (122, (.iaload, 1)), (123, (.if_icmp .ge 7, 3)), (126, (.iconst 1, 1)), (127, (.goto 4, 3))], [(130, (.iconst 0, 1)), (131, (.iadd, 1)), (132, (.istore 5, 2)), (134, (.iload 6, 2)), (136, (.iload 8, 2)), (138, (.ifCond .eq 19, 3)), (141, (.aload_n 0, 1)), (142, (.getfield 97, 3))], [(145, (.iload 7, 2)), (147, (.iaload, 1)), (148, (.iload 4, 2)), (150, (.if_icmp .eq 7, 3)), (153, (.iconst 1, 1)), (154, (.goto 4, 3)), (157, (.iconst 0, 1)), (158, (.iadd, 1)), (159, (.istore 6, 2))], [(161, (.iinc 7 1, 3)), (164, (.goto (-98), 3)), (167, (.iload 5, 2)), (169, (.iload 6, 2)), (171, (.imul, 1)), (172, (.ireturn, 1))]]
set_option maxRecDepth 100000 in
def pmc_306 : pm_T (Instr × Nat) := [[(0, (.aload_n 0, 1)), (1, (.iconst 0, 1)), (2, (.putfield 1, 3)), (5, (.iload_n 1, 1)), (6, (.iconst 0, 1)), (7, (.iconst 3, 1)), (8, (.invokestatic 253, 3)), (11, (.ifCond .eq 29, 3)), (14, (.iload_n 2, 1)), (15, (.ifCond .eq 27, 3))], [(18, (.aload_n 0, 1)), (19, (.getfield 199, 3)), (22, (.iload_n 1, 1)), (23, (.baload, 1)), (24, (.ifCond .eq 16, 3)), (27, (.aload_n 0, 1)), (28, (.getfield 428, 3)), (31, (.aload_n 0, 1))], [(32, (.getfield 202, 3)), (35, (.iload_n 1, 1)), (36, (.iaload, 1)), (37, (.if_icmp .ge 5, 3)), (40, (.iconst 0, 1)), (41, (.ireturn, 1)), (42, (.iload_n 2, 1)), (43, (.ifCond .eq 16, 3)), (46, (.aload_n 0, 1)), (47, (.aload_n 0, 1))], [(48, (.getfield 202, 3)), (51, (.iload_n 1, 1)), (52, (.iaload, 1)), (53, (.putfield 428, 3)), (56, (.goto 20, 3)), (59, (.aload_n 0, 1)), (60, (.getfield 199, 3)), (63, (.iload_n 1, 1))], [(64, (.iconst 1, 1)), (65, (.bastore, 1)), (66, (.aload_n 0, 1)), (67, (.getfield 202, 3)), (70, (.iload_n 1, 1)), (71, (.aload_n 0, 1)), (72, (.getfield 428, 3)), (75, (.iastore, 1)), (76, (.sipush 1728, 3)), (79, (.iload_n 1, 1))], [(80, (.imul, 1)), (81, (.istore_n 3, 1)), (82, (.aload_n 0, 1)), (83, (.iload_n 3, 1)), (84, (.aload_n 0, 1)), (85, (.getfield 115, 3)), (88, (.iload_n 2, 1)), (89, (.invokevirtual 496, 3)), (92, (.aload_n 0, 1)), (93, (.iload_n 3, 1)), (94, (.sipush 288, 3))], [(97, (.iadd, 1)), (98, (.aload_n 0, 1)), (99, (.getfield 118, 3)), (102, (.iload_n 2, 1)), (103, (.invokevirtual 496, 3)), (106, (.aload_n 0, 1)), (107, (.iload_n 3, 1)), (108, (.sipush 576, 3)), (111, (.iadd, 1))], [(112, (.aload_n 0, 1)), (113, (.getfield 121, 3)), (116, (.iload_n 2, 1)), (117, (.invokevirtual 496, 3)), (120, (.aload_n 0, 1)), (121, (.iload_n 3, 1)), (122, (.sipush 864, 3)), (125, (.iadd, 1)), (126, (.aload_n 0, 1)), (127, (.getfield 124, 3))], [(130, (.iload_n 2, 1)), (131, (.invokevirtual 496, 3)), (134, (.aload_n 0, 1)), (135, (.iload_n 3, 1)), (136, (.sipush 1152, 3)), (139, (.iadd, 1)), (140, (.aload_n 0, 1)), (141, (.getfield 127, 3))], [(144, (.iload_n 2, 1)), (145, (.invokevirtual 496, 3)), (148, (.aload_n 0, 1)), (149, (.iload_n 3, 1)), (150, (.sipush 1440, 3)), (153, (.iadd, 1)), (154, (.aload_n 0, 1)), (155, (.getfield 130, 3)), (158, (.iload_n 2, 1)), (159, (.invokevirtual 496, 3))], [(162, (.iconst 1, 1)), (163, (.ireturn, 1))]]
set_option maxRecDepth 100000 in
def pmc_307 : pm_T (Instr × Nat) := [[(0, (.iconst 0, 1)), (1, (.istore 4, 2)), (3, (.iload 4, 2)), (5, (.sipush 288, 3)), (8, (.if_icmp .ge 42, 3)), (11, (.iload_n 3, 1)), (12, (.ifCond .eq 19, 3)), (15, (.aload_n 2, 1))], [(16, (.iload 4, 2)), (18, (.aload_n 0, 1)), (19, (.getfield 205, 3)), (22, (.iload_n 1, 1)), (23, (.iload 4, 2)), (25, (.iadd, 1)), (26, (.iaload, 1)), (27, (.iastore, 1)), (28, (.goto 16, 3)), (31, (.aload_n 0, 1))], [(32, (.getfield 205, 3)), (35, (.iload_n 1, 1)), (36, (.iload 4, 2)), (38, (.iadd, 1)), (39, (.aload_n 2, 1)), (40, (.iload 4, 2)), (42, (.iaload, 1)), (43, (.iastore, 1)), (44, (.iinc 4 1, 3)), (47, (.goto (-44), 3))], [(50, (.return_, 1))]]
set_option maxRecDepth 100000 in
def pmc_308 : pm_T (Instr × Nat) := [[(0, (.aload_n 0, 1)), (1, (.iconst 0, 1)), (2, (.putfield 1, 3)), (5, (.iconst 0, 1)), (6, (.istore_n 2, 1)), (7, (.iload_n 1, 1)), (8, (.tableswitch 192 0 7 #[48, 94, 94, 142, 147, 182, 187, 48], 48))], [], [], [(56, (.iconst 0, 1)), (57, (.istore_n 3, 1)), (58, (.iload_n 3, 1)), (59, (.bipush 24, 2)), (61, (.if_icmp .ge 39, 3))], [(64, (.iload_n 2, 1)), (65, (.aload_n 0, 1)), (66, (.getfield 93, 3)), (69, (.iload_n 3, 1)), (70, (.baload, 1)), (71, (.ifCond .eq 20, 3)), (74, (.iload_n 1, 1)), (75, (.ifCond .eq 12, 3)), (78, (.aload_n 0, 1)), (79, (.getfield 106, 3))], [(82, (.iload_n 3, 1)), (83, (.baload, 1)), (84, (.ifCond .eq 7, 3)), (87, (.iconst 1, 1)), (88, (.goto 4, 3)), (91, (.iconst 0, 1)), (92, (.iadd, 1)), (93, (.istore_n 2, 1)), (94, (.iinc 3 1, 3))], [(97, (.goto (-39), 3)), (100, (.iload_n 2, 1)), (101, (.ireturn, 1)), (102, (.iconst 0, 1)), (103, (.istore_n 3, 1)), (104, (.iload_n 3, 1)), (105, (.sipush 288, 3)), (108, (.if_icmp .ge 40, 3)), (111, (.iload_n 2, 1))], [(112, (.iload_n 1, 1)), (113, (.iconst 1, 1)), (114, (.if_icmp .ne 20, 3)), (117, (.aload_n 0, 1)), (118, (.getfield 115, 3)), (121, (.iload_n 3, 1)), (122, (.iaload, 1)), (123, (.ifCond .eq 7, 3)), (126, (.iconst 1, 1)), (127, (.goto 13, 3))], [(130, (.iconst 0, 1)), (131, (.goto 9, 3)), (134, (.aload_n 0, 1)), (135, (.getfield 124, 3)), (138, (.iload_n 3, 1)), (139, (.iaload, 1)), (140, (.iadd, 1)), (141, (.istore_n 2, 1)), (142, (.iinc 3 1, 3))], [(145, (.goto (-41), 3)), (148, (.iload_n 2, 1)), (149, (.ireturn, 1)), (150, (.aload_n 0, 1)), (151, (.getfield 428, 3)), (154, (.ireturn, 1)), (155, (.iconst 0, 1)), (156, (.istore_n 3, 1)), (157, (.iload_n 3, 1)), (158, (.aload_n 0, 1)), (159, (.getfield 428, 3))], [(162, (.if_icmp .ge 26, 3)), (165, (.iload_n 2, 1)), (166, (.aload_n 0, 1)), (167, (.getfield 169, 3)), (170, (.iload_n 3, 1)), (171, (.baload, 1)), (172, (.ifCond .eq 7, 3)), (175, (.iconst 1, 1))], [(176, (.goto 4, 3)), (179, (.iconst 0, 1)), (180, (.iadd, 1)), (181, (.istore_n 2, 1)), (182, (.iinc 3 1, 3)), (185, (.goto (-28), 3)), (188, (.iload_n 2, 1)), (189, (.ireturn, 1)), (190, (.aload_n 0, 1)), (191, (.getfield 208, 3))], [(194, (.ireturn, 1)), (195, (.aload_n 0, 1)), (196, (.getfield 11, 3)), (199, (.ireturn, 1)), (200, (.iconst (-1), 1)), (201, (.ireturn, 1))]]
end
section
/-! code of the methods (printed by wip/tool out of claim/Statement.lean), in chunks of 16 bytes; each row is what decode gives -/
set_option maxRecDepth 100000 in
def pmc_309 : pm_T (Instr × Nat) := [[(0, (.new 8, 3)), (3, (.dup, 1)), (4, (.invokespecial 60, 3)), (7, (.astore_n 1, 1)), (8, (.new 61, 3)), (11, (.dup, 1)), (12, (.invokespecial 63, 3)), (15, (.astore_n 2, 1))], [(16, (.iconst 1, 1)), (17, (.newarray .long, 2)), (19, (.astore_n 3, 1)), (20, (.iconst 0, 1)), (21, (.istore 4, 2)), (23, (.iload 4, 2)), (25, (.aload_n 0, 1)), (26, (.arraylength, 1)), (27, (.bipush 7, 2)), (29, (.isub, 1)), (30, (.if_icmp .gt 2700, 3))], [(33, (.aload_n 0, 1)), (34, (.iload 4, 2)), (36, (.iaload, 1)), (37, (.bipush 63, 2)), (39, (.iand, 1)), (40, (.tableswitch 2684 0 40 #[180, 269, 330, 391, 416, 477, 514, 606, 697, 788, 867, 904, 941, 1048, 1139, 1189, 1268, 1306, 1397, 1544, 1569, 1630, 1668, 1693, 1766, 1831, 1914, 1939, 1964, 2001, 2068, 2123, 2184, 2263, 2354, 2416, 2465, 2502, 2581, 2606, 2659], 180))], [], [], [], [], [], [], [], [], [], [], [(220, (.aload_n 1, 1)), (221, (.aload_n 0, 1)), (222, (.iload 4, 2))], [(224, (.iconst 1, 1)), (225, (.iadd, 1)), (226, (.iaload, 1)), (227, (.aload_n 0, 1)), (228, (.iload 4, 2)), (230, (.iconst 2, 1)), (231, (.iadd, 1)), (232, (.iaload, 1)), (233, (.aload_n 0, 1)), (234, (.iload 4, 2)), (236, (.iconst 3, 1)), (237, (.iadd, 1)), (238, (.iaload, 1)), (239, (.aload_n 0, 1))], [(240, (.iload 4, 2)), (242, (.iconst 4, 1)), (243, (.iadd, 1)), (244, (.iaload, 1)), (245, (.aload_n 0, 1)), (246, (.iload 4, 2)), (248, (.iconst 5, 1)), (249, (.iadd, 1)), (250, (.iaload, 1)), (251, (.ifCond .eq 7, 3)), (254, (.iconst 1, 1)), (255, (.goto 4, 3))], [(258, (.iconst 0, 1)), (259, (.invokevirtual 64, 3)), (262, (.aload_n 2, 1)), (263, (.aload_n 0, 1)), (264, (.iload 4, 2)), (266, (.iconst 1, 1)), (267, (.iadd, 1)), (268, (.iaload, 1)), (269, (.aload_n 0, 1)), (270, (.iload 4, 2))], [(272, (.iconst 2, 1)), (273, (.iadd, 1)), (274, (.iaload, 1)), (275, (.aload_n 0, 1)), (276, (.iload 4, 2)), (278, (.iconst 3, 1)), (279, (.iadd, 1)), (280, (.iaload, 1)), (281, (.aload_n 0, 1)), (282, (.iload 4, 2)), (284, (.iconst 4, 1)), (285, (.iadd, 1)), (286, (.iaload, 1)), (287, (.aload_n 0, 1))], [(288, (.iload 4, 2)), (290, (.iconst 5, 1)), (291, (.iadd, 1)), (292, (.iaload, 1)), (293, (.ifCond .eq 7, 3)), (296, (.iconst 1, 1)), (297, (.goto 4, 3)), (300, (.iconst 0, 1)), (301, (.invokevirtual 68, 3))], [(304, (.if_icmp .eq 2420, 3)), (307, (.iconst 0, 1)), (308, (.ireturn, 1)), (309, (.aload_n 1, 1)), (310, (.aload_n 0, 1)), (311, (.iload 4, 2)), (313, (.iconst 1, 1)), (314, (.iadd, 1)), (315, (.iaload, 1)), (316, (.aload_n 0, 1)), (317, (.iload 4, 2)), (319, (.iconst 2, 1))], [(320, (.iadd, 1)), (321, (.iaload, 1)), (322, (.aload_n 0, 1)), (323, (.iload 4, 2)), (325, (.iconst 3, 1)), (326, (.iadd, 1)), (327, (.iaload, 1)), (328, (.aload_n 0, 1)), (329, (.iload 4, 2)), (331, (.iconst 4, 1)), (332, (.iadd, 1)), (333, (.iaload, 1)), (334, (.invokevirtual 69, 3))], [(337, (.aload_n 2, 1)), (338, (.aload_n 0, 1)), (339, (.iload 4, 2)), (341, (.iconst 1, 1)), (342, (.iadd, 1)), (343, (.iaload, 1)), (344, (.aload_n 0, 1)), (345, (.iload 4, 2)), (347, (.iconst 2, 1)), (348, (.iadd, 1)), (349, (.iaload, 1)), (350, (.aload_n 0, 1)), (351, (.iload 4, 2))], [(353, (.iconst 3, 1)), (354, (.iadd, 1)), (355, (.iaload, 1)), (356, (.aload_n 0, 1)), (357, (.iload 4, 2)), (359, (.iconst 4, 1)), (360, (.iadd, 1)), (361, (.iaload, 1)), (362, (.invokevirtual 73, 3)), (365, (.if_icmp .eq 2359, 3))], [(368, (.iconst 0, 1)), (369, (.ireturn, 1)), (370, (.aload_n 1, 1)), (371, (.aload_n 0, 1)), (372, (.iload 4, 2)), (374, (.iconst 1, 1)), (375, (.iadd, 1)), (376, (.iaload, 1)), (377, (.aload_n 0, 1)), (378, (.iload 4, 2)), (380, (.iconst 2, 1)), (381, (.iadd, 1)), (382, (.iaload, 1)), (383, (.aload_n 0, 1))], [(384, (.iload 4, 2)), (386, (.iconst 3, 1)), (387, (.iadd, 1)), (388, (.iaload, 1)), (389, (.aload_n 0, 1)), (390, (.iload 4, 2)), (392, (.iconst 4, 1)), (393, (.iadd, 1)), (394, (.iaload, 1)), (395, (.invokevirtual 74, 3)), (398, (.aload_n 2, 1)), (399, (.aload_n 0, 1))], [(400, (.iload 4, 2)), (402, (.iconst 1, 1)), (403, (.iadd, 1)), (404, (.iaload, 1)), (405, (.aload_n 0, 1)), (406, (.iload 4, 2)), (408, (.iconst 2, 1)), (409, (.iadd, 1)), (410, (.iaload, 1)), (411, (.aload_n 0, 1)), (412, (.iload 4, 2)), (414, (.iconst 3, 1)), (415, (.iadd, 1))], [(416, (.iaload, 1)), (417, (.aload_n 0, 1)), (418, (.iload 4, 2)), (420, (.iconst 4, 1)), (421, (.iadd, 1)), (422, (.iaload, 1)), (423, (.invokevirtual 77, 3)), (426, (.if_icmp .eq 2298, 3)), (429, (.iconst 0, 1)), (430, (.ireturn, 1)), (431, (.aload_n 1, 1))], [(432, (.aload_n 0, 1)), (433, (.iload 4, 2)), (435, (.iconst 1, 1)), (436, (.iadd, 1)), (437, (.iaload, 1)), (438, (.invokevirtual 78, 3)), (441, (.aload_n 2, 1)), (442, (.aload_n 0, 1)), (443, (.iload 4, 2)), (445, (.iconst 1, 1)), (446, (.iadd, 1)), (447, (.iaload, 1))], [(448, (.invokevirtual 82, 3)), (451, (.if_icmp .eq 2273, 3)), (454, (.iconst 0, 1)), (455, (.ireturn, 1)), (456, (.aload_n 1, 1)), (457, (.aload_n 0, 1)), (458, (.iload 4, 2)), (460, (.iconst 1, 1)), (461, (.iadd, 1)), (462, (.iaload, 1)), (463, (.aload_n 0, 1))], [(464, (.iload 4, 2)), (466, (.iconst 2, 1)), (467, (.iadd, 1)), (468, (.iaload, 1)), (469, (.aload_n 0, 1)), (470, (.iload 4, 2)), (472, (.iconst 3, 1)), (473, (.iadd, 1)), (474, (.iaload, 1)), (475, (.aload_n 0, 1)), (476, (.iload 4, 2)), (478, (.iconst 4, 1)), (479, (.iadd, 1))], [(480, (.iaload, 1)), (481, (.invokevirtual 83, 3)), (484, (.aload_n 2, 1)), (485, (.aload_n 0, 1)), (486, (.iload 4, 2)), (488, (.iconst 1, 1)), (489, (.iadd, 1)), (490, (.iaload, 1)), (491, (.aload_n 0, 1)), (492, (.iload 4, 2)), (494, (.iconst 2, 1)), (495, (.iadd, 1))], [(496, (.iaload, 1)), (497, (.aload_n 0, 1)), (498, (.iload 4, 2)), (500, (.iconst 3, 1)), (501, (.iadd, 1)), (502, (.iaload, 1)), (503, (.aload_n 0, 1)), (504, (.iload 4, 2)), (506, (.iconst 4, 1)), (507, (.iadd, 1)), (508, (.iaload, 1)), (509, (.invokevirtual 86, 3))], [(512, (.if_icmp .eq 2212, 3)), (515, (.iconst 0, 1)), (516, (.ireturn, 1)), (517, (.aload_n 1, 1)), (518, (.aload_n 0, 1)), (519, (.iload 4, 2)), (521, (.iconst 1, 1)), (522, (.iadd, 1)), (523, (.iaload, 1)), (524, (.aload_n 0, 1)), (525, (.iload 4, 2)), (527, (.iconst 2, 1))], [(528, (.iadd, 1)), (529, (.iaload, 1)), (530, (.invokevirtual 87, 3)), (533, (.aload_n 2, 1)), (534, (.aload_n 0, 1)), (535, (.iload 4, 2)), (537, (.iconst 1, 1)), (538, (.iadd, 1)), (539, (.iaload, 1)), (540, (.aload_n 0, 1)), (541, (.iload 4, 2)), (543, (.iconst 2, 1))], [(544, (.iadd, 1)), (545, (.iaload, 1)), (546, (.invokevirtual 91, 3)), (549, (.if_icmp .eq 2175, 3)), (552, (.iconst 0, 1)), (553, (.ireturn, 1)), (554, (.aload_n 1, 1)), (555, (.aload_n 0, 1)), (556, (.iload 4, 2)), (558, (.iconst 1, 1)), (559, (.iadd, 1))], [(560, (.iaload, 1)), (561, (.aload_n 0, 1)), (562, (.iload 4, 2)), (564, (.iconst 2, 1)), (565, (.iadd, 1)), (566, (.iaload, 1)), (567, (.aload_n 0, 1)), (568, (.iload 4, 2)), (570, (.iconst 3, 1)), (571, (.iadd, 1)), (572, (.iaload, 1)), (573, (.aload_n 0, 1)), (574, (.iload 4, 2))], [(576, (.iconst 4, 1)), (577, (.iadd, 1)), (578, (.iaload, 1)), (579, (.aload_n 3, 1)), (580, (.invokestatic 92, 3)), (583, (.istore 5, 2)), (585, (.aload_n 2, 1)), (586, (.aload_n 0, 1)), (587, (.iload 4, 2)), (589, (.iconst 1, 1)), (590, (.iadd, 1)), (591, (.iaload, 1))], [(592, (.aload_n 0, 1)), (593, (.iload 4, 2)), (595, (.iconst 2, 1)), (596, (.iadd, 1)), (597, (.iaload, 1)), (598, (.aload_n 0, 1)), (599, (.iload 4, 2)), (601, (.iconst 3, 1)), (602, (.iadd, 1)), (603, (.iaload, 1)), (604, (.aload_n 0, 1)), (605, (.iload 4, 2)), (607, (.iconst 4, 1))], [(608, (.iadd, 1)), (609, (.iaload, 1)), (610, (.invokevirtual 97, 3)), (613, (.istore 6, 2)), (615, (.aload_n 2, 1)), (616, (.invokevirtual 98, 3)), (619, (.iload 5, 2)), (621, (.if_icmp .eq 5, 3))], [(624, (.iconst 0, 1)), (625, (.ireturn, 1)), (626, (.iload 5, 2)), (628, (.ifCond .ne 15, 3)), (631, (.aload_n 3, 1)), (632, (.iconst 0, 1)), (633, (.laload, 1)), (634, (.iload 6, 2)), (636, (.i2l, 1)), (637, (.lcmp, 1)), (638, (.ifCond .eq 5, 3))], [(641, (.iconst 0, 1)), (642, (.ireturn, 1)), (643, (.goto 2081, 3)), (646, (.aload_n 1, 1)), (647, (.aload_n 0, 1)), (648, (.iload 4, 2)), (650, (.iconst 1, 1)), (651, (.iadd, 1)), (652, (.iaload, 1)), (653, (.aload_n 0, 1)), (654, (.iload 4, 2))], [(656, (.iconst 2, 1)), (657, (.iadd, 1)), (658, (.iaload, 1)), (659, (.aload_n 0, 1)), (660, (.iload 4, 2)), (662, (.iconst 3, 1)), (663, (.iadd, 1)), (664, (.iaload, 1)), (665, (.aload_n 0, 1)), (666, (.iload 4, 2)), (668, (.iconst 4, 1)), (669, (.iadd, 1)), (670, (.iaload, 1)), (671, (.aload_n 3, 1))], [(672, (.invokestatic 102, 3)), (675, (.istore 5, 2)), (677, (.aload_n 2, 1)), (678, (.aload_n 0, 1)), (679, (.iload 4, 2)), (681, (.iconst 1, 1)), (682, (.iadd, 1)), (683, (.iaload, 1)), (684, (.aload_n 0, 1)), (685, (.iload 4, 2)), (687, (.iconst 2, 1))], [(688, (.iadd, 1)), (689, (.iaload, 1)), (690, (.aload_n 0, 1)), (691, (.iload 4, 2)), (693, (.iconst 3, 1)), (694, (.iadd, 1)), (695, (.iaload, 1)), (696, (.aload_n 0, 1)), (697, (.iload 4, 2)), (699, (.iconst 4, 1)), (700, (.iadd, 1)), (701, (.iaload, 1)), (702, (.invokevirtual 104, 3))], [(705, (.lstore 6, 2)), (707, (.aload_n 2, 1)), (708, (.invokevirtual 98, 3)), (711, (.iload 5, 2)), (713, (.if_icmp .eq 5, 3)), (716, (.iconst 0, 1)), (717, (.ireturn, 1)), (718, (.iload 5, 2))], [(720, (.ifCond .ne 14, 3)), (723, (.aload_n 3, 1)), (724, (.iconst 0, 1)), (725, (.laload, 1)), (726, (.lload 6, 2)), (728, (.lcmp, 1)), (729, (.ifCond .eq 5, 3)), (732, (.iconst 0, 1)), (733, (.ireturn, 1)), (734, (.goto 1990, 3))], [(737, (.aload_n 1, 1)), (738, (.aload_n 0, 1)), (739, (.iload 4, 2)), (741, (.iconst 1, 1)), (742, (.iadd, 1)), (743, (.iaload, 1)), (744, (.aload_n 0, 1)), (745, (.iload 4, 2)), (747, (.iconst 2, 1)), (748, (.iadd, 1)), (749, (.iaload, 1)), (750, (.aload_n 0, 1)), (751, (.iload 4, 2))], [(753, (.iconst 3, 1)), (754, (.iadd, 1)), (755, (.iaload, 1)), (756, (.aload_n 0, 1)), (757, (.iload 4, 2)), (759, (.iconst 4, 1)), (760, (.iadd, 1)), (761, (.iaload, 1)), (762, (.aload_n 3, 1)), (763, (.invokestatic 105, 3)), (766, (.istore 5, 2))], [(768, (.aload_n 2, 1)), (769, (.aload_n 0, 1)), (770, (.iload 4, 2)), (772, (.iconst 1, 1)), (773, (.iadd, 1)), (774, (.iaload, 1)), (775, (.aload_n 0, 1)), (776, (.iload 4, 2)), (778, (.iconst 2, 1)), (779, (.iadd, 1)), (780, (.iaload, 1)), (781, (.aload_n 0, 1)), (782, (.iload 4, 2))], [(784, (.iconst 3, 1)), (785, (.iadd, 1)), (786, (.iaload, 1)), (787, (.aload_n 0, 1)), (788, (.iload 4, 2)), (790, (.iconst 4, 1)), (791, (.iadd, 1)), (792, (.iaload, 1)), (793, (.invokevirtual 107, 3)), (796, (.lstore 6, 2)), (798, (.aload_n 2, 1)), (799, (.invokevirtual 98, 3))], [(802, (.iload 5, 2)), (804, (.if_icmp .eq 5, 3)), (807, (.iconst 0, 1)), (808, (.ireturn, 1)), (809, (.iload 5, 2)), (811, (.ifCond .ne 14, 3)), (814, (.aload_n 3, 1)), (815, (.iconst 0, 1))], [(816, (.laload, 1)), (817, (.lload 6, 2)), (819, (.lcmp, 1)), (820, (.ifCond .eq 5, 3)), (823, (.iconst 0, 1)), (824, (.ireturn, 1)), (825, (.goto 1899, 3)), (828, (.aload_n 1, 1)), (829, (.aload_n 0, 1)), (830, (.iload 4, 2))], [(832, (.iconst 1, 1)), (833, (.iadd, 1)), (834, (.iaload, 1)), (835, (.aload_n 0, 1)), (836, (.iload 4, 2)), (838, (.iconst 2, 1)), (839, (.iadd, 1)), (840, (.iaload, 1)), (841, (.aload_n 0, 1)), (842, (.iload 4, 2)), (844, (.iconst 3, 1)), (845, (.iadd, 1)), (846, (.iaload, 1)), (847, (.aload_n 3, 1))], [(848, (.invokestatic 108, 3)), (851, (.istore 5, 2)), (853, (.aload_n 2, 1)), (854, (.aload_n 0, 1)), (855, (.iload 4, 2)), (857, (.iconst 1, 1)), (858, (.iadd, 1)), (859, (.iaload, 1)), (860, (.aload_n 0, 1)), (861, (.iload 4, 2)), (863, (.iconst 2, 1))], [(864, (.iadd, 1)), (865, (.iaload, 1)), (866, (.aload_n 0, 1)), (867, (.iload 4, 2)), (869, (.iconst 3, 1)), (870, (.iadd, 1)), (871, (.iaload, 1)), (872, (.invokevirtual 111, 3)), (875, (.lstore 6, 2)), (877, (.aload_n 2, 1)), (878, (.invokevirtual 98, 3))], [(881, (.iload 5, 2)), (883, (.if_icmp .eq 5, 3)), (886, (.iconst 0, 1)), (887, (.ireturn, 1)), (888, (.iload 5, 2)), (890, (.ifCond .ne 14, 3)), (893, (.aload_n 3, 1)), (894, (.iconst 0, 1)), (895, (.laload, 1))], [(896, (.lload 6, 2)), (898, (.lcmp, 1)), (899, (.ifCond .eq 5, 3)), (902, (.iconst 0, 1)), (903, (.ireturn, 1)), (904, (.goto 1820, 3)), (907, (.aload_n 1, 1)), (908, (.aload_n 0, 1)), (909, (.iload 4, 2)), (911, (.iconst 1, 1))], [(912, (.iadd, 1)), (913, (.iaload, 1)), (914, (.aload_n 0, 1)), (915, (.iload 4, 2)), (917, (.iconst 2, 1)), (918, (.iadd, 1)), (919, (.iaload, 1)), (920, (.invokevirtual 112, 3)), (923, (.aload_n 2, 1)), (924, (.aload_n 0, 1)), (925, (.iload 4, 2)), (927, (.iconst 1, 1))], [(928, (.iadd, 1)), (929, (.iaload, 1)), (930, (.aload_n 0, 1)), (931, (.iload 4, 2)), (933, (.iconst 2, 1)), (934, (.iadd, 1)), (935, (.iaload, 1)), (936, (.invokevirtual 115, 3)), (939, (.if_icmp .eq 1785, 3)), (942, (.iconst 0, 1)), (943, (.ireturn, 1))], [(944, (.aload_n 1, 1)), (945, (.aload_n 0, 1)), (946, (.iload 4, 2)), (948, (.iconst 1, 1)), (949, (.iadd, 1)), (950, (.iaload, 1)), (951, (.aload_n 0, 1)), (952, (.iload 4, 2)), (954, (.iconst 2, 1)), (955, (.iadd, 1)), (956, (.iaload, 1)), (957, (.invokevirtual 116, 3))], [(960, (.aload_n 2, 1)), (961, (.aload_n 0, 1)), (962, (.iload 4, 2)), (964, (.iconst 1, 1)), (965, (.iadd, 1)), (966, (.iaload, 1)), (967, (.aload_n 0, 1)), (968, (.iload 4, 2)), (970, (.iconst 2, 1)), (971, (.iadd, 1)), (972, (.iaload, 1)), (973, (.invokevirtual 119, 3))], [(976, (.if_icmp .eq 1748, 3)), (979, (.iconst 0, 1)), (980, (.ireturn, 1)), (981, (.aload_n 1, 1)), (982, (.aload_n 0, 1)), (983, (.iload 4, 2)), (985, (.iconst 1, 1)), (986, (.iadd, 1)), (987, (.iaload, 1)), (988, (.aload_n 0, 1)), (989, (.iload 4, 2)), (991, (.iconst 2, 1))], [(992, (.iadd, 1)), (993, (.iaload, 1)), (994, (.aload_n 0, 1)), (995, (.iload 4, 2)), (997, (.iconst 3, 1)), (998, (.iadd, 1)), (999, (.iaload, 1)), (1000, (.ifCond .eq 7, 3)), (1003, (.iconst 1, 1)), (1004, (.goto 4, 3)), (1007, (.iconst 0, 1))], [(1008, (.aload_n 0, 1)), (1009, (.iload 4, 2)), (1011, (.iconst 4, 1)), (1012, (.iadd, 1)), (1013, (.iaload, 1)), (1014, (.aload_n 3, 1)), (1015, (.invokestatic 120, 3)), (1018, (.istore 5, 2)), (1020, (.aload_n 2, 1)), (1021, (.aload_n 0, 1)), (1022, (.iload 4, 2))], [(1024, (.iconst 1, 1)), (1025, (.iadd, 1)), (1026, (.iaload, 1)), (1027, (.aload_n 0, 1)), (1028, (.iload 4, 2)), (1030, (.iconst 2, 1)), (1031, (.iadd, 1)), (1032, (.iaload, 1)), (1033, (.aload_n 0, 1)), (1034, (.iload 4, 2)), (1036, (.iconst 3, 1)), (1037, (.iadd, 1)), (1038, (.iaload, 1)), (1039, (.ifCond .eq 7, 3))], [(1042, (.iconst 1, 1)), (1043, (.goto 4, 3)), (1046, (.iconst 0, 1)), (1047, (.aload_n 0, 1)), (1048, (.iload 4, 2)), (1050, (.iconst 4, 1)), (1051, (.iadd, 1)), (1052, (.iaload, 1)), (1053, (.invokevirtual 123, 3))], [(1056, (.lstore 6, 2)), (1058, (.aload_n 2, 1)), (1059, (.invokevirtual 98, 3)), (1062, (.iload 5, 2)), (1064, (.if_icmp .eq 5, 3)), (1067, (.iconst 0, 1)), (1068, (.ireturn, 1)), (1069, (.iload 5, 2)), (1071, (.ifCond .ne 14, 3))], [(1074, (.aload_n 3, 1)), (1075, (.iconst 0, 1)), (1076, (.laload, 1)), (1077, (.lload 6, 2)), (1079, (.lcmp, 1)), (1080, (.ifCond .eq 5, 3)), (1083, (.iconst 0, 1)), (1084, (.ireturn, 1)), (1085, (.goto 1639, 3))], [(1088, (.aload_n 1, 1)), (1089, (.aload_n 0, 1)), (1090, (.iload 4, 2)), (1092, (.iconst 1, 1)), (1093, (.iadd, 1)), (1094, (.iaload, 1)), (1095, (.aload_n 0, 1)), (1096, (.iload 4, 2)), (1098, (.iconst 2, 1)), (1099, (.iadd, 1)), (1100, (.iaload, 1)), (1101, (.aload_n 0, 1)), (1102, (.iload 4, 2))], [(1104, (.iconst 3, 1)), (1105, (.iadd, 1)), (1106, (.iaload, 1)), (1107, (.aload_n 0, 1)), (1108, (.iload 4, 2)), (1110, (.iconst 4, 1)), (1111, (.iadd, 1)), (1112, (.iaload, 1)), (1113, (.aload_n 3, 1)), (1114, (.invokestatic 124, 3)), (1117, (.istore 5, 2)), (1119, (.aload_n 2, 1))], [(1120, (.aload_n 0, 1)), (1121, (.iload 4, 2)), (1123, (.iconst 1, 1)), (1124, (.iadd, 1)), (1125, (.iaload, 1)), (1126, (.aload_n 0, 1)), (1127, (.iload 4, 2)), (1129, (.iconst 2, 1)), (1130, (.iadd, 1)), (1131, (.iaload, 1)), (1132, (.aload_n 0, 1)), (1133, (.iload 4, 2)), (1135, (.iconst 3, 1))], [(1136, (.iadd, 1)), (1137, (.iaload, 1)), (1138, (.aload_n 0, 1)), (1139, (.iload 4, 2)), (1141, (.iconst 4, 1)), (1142, (.iadd, 1)), (1143, (.iaload, 1)), (1144, (.invokevirtual 126, 3)), (1147, (.lstore 6, 2)), (1149, (.aload_n 2, 1)), (1150, (.invokevirtual 98, 3))], [(1153, (.iload 5, 2)), (1155, (.if_icmp .eq 5, 3)), (1158, (.iconst 0, 1)), (1159, (.ireturn, 1)), (1160, (.iload 5, 2)), (1162, (.ifCond .ne 14, 3)), (1165, (.aload_n 3, 1)), (1166, (.iconst 0, 1)), (1167, (.laload, 1))], [(1168, (.lload 6, 2)), (1170, (.lcmp, 1)), (1171, (.ifCond .eq 5, 3)), (1174, (.iconst 0, 1)), (1175, (.ireturn, 1)), (1176, (.goto 1548, 3)), (1179, (.aload_n 1, 1)), (1180, (.aload_n 0, 1)), (1181, (.iload 4, 2)), (1183, (.iconst 1, 1))], [(1184, (.iadd, 1)), (1185, (.iaload, 1)), (1186, (.aload_n 0, 1)), (1187, (.iload 4, 2)), (1189, (.iconst 2, 1)), (1190, (.iadd, 1)), (1191, (.iaload, 1)), (1192, (.aload_n 0, 1)), (1193, (.iload 4, 2)), (1195, (.iconst 3, 1)), (1196, (.iadd, 1)), (1197, (.iaload, 1)), (1198, (.invokevirtual 127, 3))], [(1201, (.aload_n 2, 1)), (1202, (.aload_n 0, 1)), (1203, (.iload 4, 2)), (1205, (.iconst 1, 1)), (1206, (.iadd, 1)), (1207, (.iaload, 1)), (1208, (.aload_n 0, 1)), (1209, (.iload 4, 2)), (1211, (.iconst 2, 1)), (1212, (.iadd, 1)), (1213, (.iaload, 1)), (1214, (.aload_n 0, 1)), (1215, (.iload 4, 2))], [(1217, (.iconst 3, 1)), (1218, (.iadd, 1)), (1219, (.iaload, 1)), (1220, (.invokevirtual 130, 3)), (1223, (.lcmp, 1)), (1224, (.ifCond .eq 1500, 3)), (1227, (.iconst 0, 1)), (1228, (.ireturn, 1)), (1229, (.aload_n 1, 1)), (1230, (.aload_n 0, 1)), (1231, (.iload 4, 2))], [(1233, (.iconst 1, 1)), (1234, (.iadd, 1)), (1235, (.iaload, 1)), (1236, (.aload_n 0, 1)), (1237, (.iload 4, 2)), (1239, (.iconst 2, 1)), (1240, (.iadd, 1)), (1241, (.iaload, 1)), (1242, (.aload_n 0, 1)), (1243, (.iload 4, 2)), (1245, (.iconst 3, 1)), (1246, (.iadd, 1)), (1247, (.iaload, 1))], [(1248, (.aload_n 3, 1)), (1249, (.invokestatic 131, 3)), (1252, (.istore 5, 2)), (1254, (.aload_n 2, 1)), (1255, (.aload_n 0, 1)), (1256, (.iload 4, 2)), (1258, (.iconst 1, 1)), (1259, (.iadd, 1)), (1260, (.iaload, 1)), (1261, (.aload_n 0, 1)), (1262, (.iload 4, 2))], [(1264, (.iconst 2, 1)), (1265, (.iadd, 1)), (1266, (.iaload, 1)), (1267, (.aload_n 0, 1)), (1268, (.iload 4, 2)), (1270, (.iconst 3, 1)), (1271, (.iadd, 1)), (1272, (.iaload, 1)), (1273, (.invokevirtual 133, 3)), (1276, (.lstore 6, 2)), (1278, (.aload_n 2, 1)), (1279, (.invokevirtual 98, 3))], [(1282, (.iload 5, 2)), (1284, (.if_icmp .eq 5, 3)), (1287, (.iconst 0, 1)), (1288, (.ireturn, 1)), (1289, (.iload 5, 2)), (1291, (.ifCond .ne 14, 3)), (1294, (.aload_n 3, 1)), (1295, (.iconst 0, 1))], [(1296, (.laload, 1)), (1297, (.lload 6, 2)), (1299, (.lcmp, 1)), (1300, (.ifCond .eq 5, 3)), (1303, (.iconst 0, 1)), (1304, (.ireturn, 1)), (1305, (.goto 1419, 3)), (1308, (.aload_n 1, 1)), (1309, (.aload_n 0, 1)), (1310, (.iload 4, 2))], [(1312, (.iconst 1, 1)), (1313, (.iadd, 1)), (1314, (.iaload, 1)), (1315, (.aload_n 0, 1)), (1316, (.iload 4, 2)), (1318, (.iconst 2, 1)), (1319, (.iadd, 1)), (1320, (.iaload, 1)), (1321, (.invokevirtual 134, 3)), (1324, (.aload_n 2, 1)), (1325, (.aload_n 0, 1)), (1326, (.iload 4, 2))], [(1328, (.iconst 1, 1)), (1329, (.iadd, 1)), (1330, (.iaload, 1)), (1331, (.aload_n 0, 1)), (1332, (.iload 4, 2)), (1334, (.iconst 2, 1)), (1335, (.iadd, 1)), (1336, (.iaload, 1)), (1337, (.invokevirtual 137, 3)), (1340, (.lcmp, 1)), (1341, (.ifCond .eq 1383, 3))], [(1344, (.iconst 0, 1)), (1345, (.ireturn, 1)), (1346, (.aload_n 1, 1)), (1347, (.aload_n 0, 1)), (1348, (.iload 4, 2)), (1350, (.iconst 1, 1)), (1351, (.iadd, 1)), (1352, (.iaload, 1)), (1353, (.aload_n 0, 1)), (1354, (.iload 4, 2)), (1356, (.iconst 2, 1)), (1357, (.iadd, 1)), (1358, (.iaload, 1)), (1359, (.aload_n 0, 1))], [(1360, (.iload 4, 2)), (1362, (.iconst 3, 1)), (1363, (.iadd, 1)), (1364, (.iaload, 1)), (1365, (.aload_n 0, 1)), (1366, (.iload 4, 2)), (1368, (.iconst 4, 1)), (1369, (.iadd, 1)), (1370, (.iaload, 1)), (1371, (.aload_n 3, 1)), (1372, (.invokestatic 138, 3)), (1375, (.istore 5, 2))], [(1377, (.aload_n 2, 1)), (1378, (.aload_n 0, 1)), (1379, (.iload 4, 2)), (1381, (.iconst 1, 1)), (1382, (.iadd, 1)), (1383, (.iaload, 1)), (1384, (.aload_n 0, 1)), (1385, (.iload 4, 2)), (1387, (.iconst 2, 1)), (1388, (.iadd, 1)), (1389, (.iaload, 1)), (1390, (.aload_n 0, 1)), (1391, (.iload 4, 2))], [(1393, (.iconst 3, 1)), (1394, (.iadd, 1)), (1395, (.iaload, 1)), (1396, (.aload_n 0, 1)), (1397, (.iload 4, 2)), (1399, (.iconst 4, 1)), (1400, (.iadd, 1)), (1401, (.iaload, 1)), (1402, (.invokevirtual 140, 3)), (1405, (.lstore 6, 2)), (1407, (.aload_n 2, 1))], [(1408, (.invokevirtual 98, 3)), (1411, (.iload 5, 2)), (1413, (.if_icmp .eq 5, 3)), (1416, (.iconst 0, 1)), (1417, (.ireturn, 1)), (1418, (.iload 5, 2)), (1420, (.ifCond .ne 14, 3)), (1423, (.aload_n 3, 1))], [(1424, (.iconst 0, 1)), (1425, (.laload, 1)), (1426, (.lload 6, 2)), (1428, (.lcmp, 1)), (1429, (.ifCond .eq 5, 3)), (1432, (.iconst 0, 1)), (1433, (.ireturn, 1)), (1434, (.goto 1290, 3)), (1437, (.aload_n 1, 1)), (1438, (.aload_n 0, 1)), (1439, (.iload 4, 2))], [(1441, (.iconst 1, 1)), (1442, (.iadd, 1)), (1443, (.iaload, 1)), (1444, (.i2l, 1)), (1445, (.bipush 32, 2)), (1447, (.lshl, 1)), (1448, (.aload_n 0, 1)), (1449, (.iload 4, 2)), (1451, (.iconst 2, 1)), (1452, (.iadd, 1)), (1453, (.iaload, 1)), (1454, (.i2l, 1)), (1455, (.ldc2_w 141, 3))], [(1458, (.land, 1)), (1459, (.lor, 1)), (1460, (.aload_n 0, 1)), (1461, (.iload 4, 2)), (1463, (.iconst 3, 1)), (1464, (.iadd, 1)), (1465, (.iaload, 1)), (1466, (.i2l, 1)), (1467, (.bipush 32, 2)), (1469, (.lshl, 1)), (1470, (.aload_n 0, 1)), (1471, (.iload 4, 2))], [(1473, (.iconst 4, 1)), (1474, (.iadd, 1)), (1475, (.iaload, 1)), (1476, (.i2l, 1)), (1477, (.ldc2_w 141, 3)), (1480, (.land, 1)), (1481, (.lor, 1)), (1482, (.aload_n 0, 1)), (1483, (.iload 4, 2)), (1485, (.iconst 5, 1)), (1486, (.iadd, 1)), (1487, (.iaload, 1))], [(1488, (.i2l, 1)), (1489, (.bipush 32, 2)), (1491, (.lshl, 1)), (1492, (.aload_n 0, 1)), (1493, (.iload 4, 2)), (1495, (.bipush 6, 2)), (1497, (.iadd, 1)), (1498, (.iaload, 1)), (1499, (.i2l, 1)), (1500, (.ldc2_w 141, 3)), (1503, (.land, 1))], [(1504, (.lor, 1)), (1505, (.invokevirtual 143, 3)), (1508, (.aload_n 2, 1)), (1509, (.aload_n 0, 1)), (1510, (.iload 4, 2)), (1512, (.iconst 1, 1)), (1513, (.iadd, 1)), (1514, (.iaload, 1)), (1515, (.i2l, 1)), (1516, (.bipush 32, 2)), (1518, (.lshl, 1)), (1519, (.aload_n 0, 1))], [(1520, (.iload 4, 2)), (1522, (.iconst 2, 1)), (1523, (.iadd, 1)), (1524, (.iaload, 1)), (1525, (.i2l, 1)), (1526, (.ldc2_w 141, 3)), (1529, (.land, 1)), (1530, (.lor, 1)), (1531, (.aload_n 0, 1)), (1532, (.iload 4, 2)), (1534, (.iconst 3, 1)), (1535, (.iadd, 1))], [(1536, (.iaload, 1)), (1537, (.i2l, 1)), (1538, (.bipush 32, 2)), (1540, (.lshl, 1)), (1541, (.aload_n 0, 1)), (1542, (.iload 4, 2)), (1544, (.iconst 4, 1)), (1545, (.iadd, 1)), (1546, (.iaload, 1)), (1547, (.i2l, 1)), (1548, (.ldc2_w 141, 3)), (1551, (.land, 1))], [(1552, (.lor, 1)), (1553, (.aload_n 0, 1)), (1554, (.iload 4, 2)), (1556, (.iconst 5, 1)), (1557, (.iadd, 1)), (1558, (.iaload, 1)), (1559, (.i2l, 1)), (1560, (.bipush 32, 2)), (1562, (.lshl, 1)), (1563, (.aload_n 0, 1)), (1564, (.iload 4, 2)), (1566, (.bipush 6, 2))], [(1568, (.iadd, 1)), (1569, (.iaload, 1)), (1570, (.i2l, 1)), (1571, (.ldc2_w 141, 3)), (1574, (.land, 1)), (1575, (.lor, 1)), (1576, (.invokevirtual 147, 3)), (1579, (.if_icmp .eq 1145, 3)), (1582, (.iconst 0, 1)), (1583, (.ireturn, 1))], [(1584, (.aload_n 1, 1)), (1585, (.aload_n 0, 1)), (1586, (.iload 4, 2)), (1588, (.iconst 1, 1)), (1589, (.iadd, 1)), (1590, (.iaload, 1)), (1591, (.invokevirtual 148, 3)), (1594, (.aload_n 2, 1)), (1595, (.aload_n 0, 1)), (1596, (.iload 4, 2)), (1598, (.iconst 1, 1)), (1599, (.iadd, 1))], [(1600, (.iaload, 1)), (1601, (.invokevirtual 152, 3)), (1604, (.if_icmp .eq 1120, 3)), (1607, (.iconst 0, 1)), (1608, (.ireturn, 1)), (1609, (.aload_n 1, 1)), (1610, (.aload_n 0, 1)), (1611, (.iload 4, 2)), (1613, (.iconst 1, 1)), (1614, (.iadd, 1)), (1615, (.iaload, 1))], [(1616, (.aload_n 0, 1)), (1617, (.iload 4, 2)), (1619, (.iconst 2, 1)), (1620, (.iadd, 1)), (1621, (.iaload, 1)), (1622, (.aload_n 0, 1)), (1623, (.iload 4, 2)), (1625, (.iconst 3, 1)), (1626, (.iadd, 1)), (1627, (.iaload, 1)), (1628, (.aload_n 0, 1)), (1629, (.iload 4, 2)), (1631, (.iconst 4, 1))], [(1632, (.iadd, 1)), (1633, (.iaload, 1)), (1634, (.invokevirtual 153, 3)), (1637, (.aload_n 2, 1)), (1638, (.aload_n 0, 1)), (1639, (.iload 4, 2)), (1641, (.iconst 1, 1)), (1642, (.iadd, 1)), (1643, (.iaload, 1)), (1644, (.aload_n 0, 1)), (1645, (.iload 4, 2)), (1647, (.iconst 2, 1))], [(1648, (.iadd, 1)), (1649, (.iaload, 1)), (1650, (.aload_n 0, 1)), (1651, (.iload 4, 2)), (1653, (.iconst 3, 1)), (1654, (.iadd, 1)), (1655, (.iaload, 1)), (1656, (.aload_n 0, 1)), (1657, (.iload 4, 2)), (1659, (.iconst 4, 1)), (1660, (.iadd, 1)), (1661, (.iaload, 1)), (1662, (.invokevirtual 156, 3))], [(1665, (.if_icmp .eq 1059, 3)), (1668, (.iconst 0, 1)), (1669, (.ireturn, 1)), (1670, (.aload_n 1, 1)), (1671, (.aload_n 0, 1)), (1672, (.iload 4, 2)), (1674, (.iconst 1, 1)), (1675, (.iadd, 1)), (1676, (.iaload, 1)), (1677, (.aload_n 0, 1)), (1678, (.iload 4, 2))], [(1680, (.iconst 2, 1)), (1681, (.iadd, 1)), (1682, (.iaload, 1)), (1683, (.invokevirtual 157, 3)), (1686, (.aload_n 2, 1)), (1687, (.aload_n 0, 1)), (1688, (.iload 4, 2)), (1690, (.iconst 1, 1)), (1691, (.iadd, 1)), (1692, (.iaload, 1)), (1693, (.aload_n 0, 1)), (1694, (.iload 4, 2))], [(1696, (.iconst 2, 1)), (1697, (.iadd, 1)), (1698, (.iaload, 1)), (1699, (.invokevirtual 160, 3)), (1702, (.lcmp, 1)), (1703, (.ifCond .eq 1021, 3)), (1706, (.iconst 0, 1)), (1707, (.ireturn, 1)), (1708, (.aload_n 1, 1)), (1709, (.aload_n 0, 1)), (1710, (.iload 4, 2))], [(1712, (.iconst 1, 1)), (1713, (.iadd, 1)), (1714, (.iaload, 1)), (1715, (.invokevirtual 161, 3)), (1718, (.aload_n 2, 1)), (1719, (.aload_n 0, 1)), (1720, (.iload 4, 2)), (1722, (.iconst 1, 1)), (1723, (.iadd, 1)), (1724, (.iaload, 1)), (1725, (.invokevirtual 164, 3))], [(1728, (.if_icmp .eq 996, 3)), (1731, (.iconst 0, 1)), (1732, (.ireturn, 1)), (1733, (.aload_n 1, 1)), (1734, (.aload_n 0, 1)), (1735, (.iload 4, 2)), (1737, (.iconst 1, 1)), (1738, (.iadd, 1)), (1739, (.iaload, 1)), (1740, (.aload_n 0, 1)), (1741, (.iload 4, 2)), (1743, (.iconst 2, 1))], [(1744, (.iadd, 1)), (1745, (.iaload, 1)), (1746, (.aload_n 0, 1)), (1747, (.iload 4, 2)), (1749, (.iconst 3, 1)), (1750, (.iadd, 1)), (1751, (.iaload, 1)), (1752, (.aload_n 0, 1)), (1753, (.iload 4, 2)), (1755, (.iconst 4, 1)), (1756, (.iadd, 1)), (1757, (.iaload, 1)), (1758, (.aload_n 0, 1)), (1759, (.iload 4, 2))], [(1761, (.iconst 5, 1)), (1762, (.iadd, 1)), (1763, (.iaload, 1)), (1764, (.invokevirtual 165, 3)), (1767, (.aload_n 2, 1)), (1768, (.aload_n 0, 1)), (1769, (.iload 4, 2)), (1771, (.iconst 1, 1)), (1772, (.iadd, 1)), (1773, (.iaload, 1)), (1774, (.aload_n 0, 1)), (1775, (.iload 4, 2))], [(1777, (.iconst 2, 1)), (1778, (.iadd, 1)), (1779, (.iaload, 1)), (1780, (.aload_n 0, 1)), (1781, (.iload 4, 2)), (1783, (.iconst 3, 1)), (1784, (.iadd, 1)), (1785, (.iaload, 1)), (1786, (.aload_n 0, 1)), (1787, (.iload 4, 2)), (1789, (.iconst 4, 1)), (1790, (.iadd, 1)), (1791, (.iaload, 1))], [(1792, (.aload_n 0, 1)), (1793, (.iload 4, 2)), (1795, (.iconst 5, 1)), (1796, (.iadd, 1)), (1797, (.iaload, 1)), (1798, (.invokevirtual 169, 3)), (1801, (.if_icmp .eq 923, 3)), (1804, (.iconst 0, 1)), (1805, (.ireturn, 1)), (1806, (.aload_n 1, 1)), (1807, (.aload_n 0, 1))], [(1808, (.iload 4, 2)), (1810, (.iconst 1, 1)), (1811, (.iadd, 1)), (1812, (.iaload, 1)), (1813, (.aload_n 0, 1)), (1814, (.iload 4, 2)), (1816, (.iconst 2, 1)), (1817, (.iadd, 1)), (1818, (.iaload, 1)), (1819, (.aload_n 0, 1)), (1820, (.iload 4, 2)), (1822, (.iconst 3, 1)), (1823, (.iadd, 1))], [(1824, (.iaload, 1)), (1825, (.ifCond .eq 7, 3)), (1828, (.iconst 1, 1)), (1829, (.goto 4, 3)), (1832, (.iconst 0, 1)), (1833, (.invokevirtual 170, 3)), (1836, (.aload_n 2, 1)), (1837, (.aload_n 0, 1)), (1838, (.iload 4, 2))], [(1840, (.iconst 1, 1)), (1841, (.iadd, 1)), (1842, (.iaload, 1)), (1843, (.aload_n 0, 1)), (1844, (.iload 4, 2)), (1846, (.iconst 2, 1)), (1847, (.iadd, 1)), (1848, (.iaload, 1)), (1849, (.aload_n 0, 1)), (1850, (.iload 4, 2)), (1852, (.iconst 3, 1)), (1853, (.iadd, 1)), (1854, (.iaload, 1)), (1855, (.ifCond .eq 7, 3))], [(1858, (.iconst 1, 1)), (1859, (.goto 4, 3)), (1862, (.iconst 0, 1)), (1863, (.invokevirtual 174, 3)), (1866, (.if_icmp .eq 858, 3)), (1869, (.iconst 0, 1)), (1870, (.ireturn, 1)), (1871, (.aload_n 1, 1))], [(1872, (.aload_n 0, 1)), (1873, (.iload 4, 2)), (1875, (.iconst 1, 1)), (1876, (.iadd, 1)), (1877, (.iaload, 1)), (1878, (.ifCond .eq 7, 3)), (1881, (.iconst 1, 1)), (1882, (.goto 4, 3)), (1885, (.iconst 0, 1)), (1886, (.aload_n 0, 1)), (1887, (.iload 4, 2))], [(1889, (.iconst 2, 1)), (1890, (.iadd, 1)), (1891, (.iaload, 1)), (1892, (.aload_n 3, 1)), (1893, (.invokestatic 175, 3)), (1896, (.istore 5, 2)), (1898, (.aload_n 2, 1)), (1899, (.aload_n 0, 1)), (1900, (.iload 4, 2)), (1902, (.iconst 1, 1)), (1903, (.iadd, 1))], [(1904, (.iaload, 1)), (1905, (.ifCond .eq 7, 3)), (1908, (.iconst 1, 1)), (1909, (.goto 4, 3)), (1912, (.iconst 0, 1)), (1913, (.aload_n 0, 1)), (1914, (.iload 4, 2)), (1916, (.iconst 2, 1)), (1917, (.iadd, 1)), (1918, (.iaload, 1)), (1919, (.invokevirtual 178, 3))], [(1922, (.lstore 6, 2)), (1924, (.aload_n 2, 1)), (1925, (.invokevirtual 98, 3)), (1928, (.iload 5, 2)), (1930, (.if_icmp .eq 5, 3)), (1933, (.iconst 0, 1)), (1934, (.ireturn, 1)), (1935, (.iload 5, 2))], [(1937, (.ifCond .ne 14, 3)), (1940, (.aload_n 3, 1)), (1941, (.iconst 0, 1)), (1942, (.laload, 1)), (1943, (.lload 6, 2)), (1945, (.lcmp, 1)), (1946, (.ifCond .eq 5, 3)), (1949, (.iconst 0, 1)), (1950, (.ireturn, 1)), (1951, (.goto 773, 3))], [(1954, (.aload_n 1, 1)), (1955, (.aload_n 0, 1)), (1956, (.iload 4, 2)), (1958, (.iconst 1, 1)), (1959, (.iadd, 1)), (1960, (.iaload, 1)), (1961, (.invokevirtual 179, 3)), (1964, (.aload_n 2, 1)), (1965, (.aload_n 0, 1)), (1966, (.iload 4, 2))], [(1968, (.iconst 1, 1)), (1969, (.iadd, 1)), (1970, (.iaload, 1)), (1971, (.invokevirtual 182, 3)), (1974, (.if_icmp .eq 750, 3)), (1977, (.iconst 0, 1)), (1978, (.ireturn, 1)), (1979, (.aload_n 1, 1)), (1980, (.aload_n 0, 1)), (1981, (.iload 4, 2)), (1983, (.iconst 1, 1))], [(1984, (.iadd, 1)), (1985, (.iaload, 1)), (1986, (.invokevirtual 183, 3)), (1989, (.aload_n 2, 1)), (1990, (.aload_n 0, 1)), (1991, (.iload 4, 2)), (1993, (.iconst 1, 1)), (1994, (.iadd, 1)), (1995, (.iaload, 1)), (1996, (.invokevirtual 186, 3)), (1999, (.if_icmp .eq 725, 3))], [(2002, (.iconst 0, 1)), (2003, (.ireturn, 1)), (2004, (.aload_n 1, 1)), (2005, (.aload_n 0, 1)), (2006, (.iload 4, 2)), (2008, (.iconst 1, 1)), (2009, (.iadd, 1)), (2010, (.iaload, 1)), (2011, (.aload_n 0, 1)), (2012, (.iload 4, 2)), (2014, (.iconst 2, 1)), (2015, (.iadd, 1))], [(2016, (.iaload, 1)), (2017, (.invokevirtual 187, 3)), (2020, (.aload_n 2, 1)), (2021, (.aload_n 0, 1)), (2022, (.iload 4, 2)), (2024, (.iconst 1, 1)), (2025, (.iadd, 1)), (2026, (.iaload, 1)), (2027, (.aload_n 0, 1)), (2028, (.iload 4, 2)), (2030, (.iconst 2, 1)), (2031, (.iadd, 1))], [(2032, (.iaload, 1)), (2033, (.invokevirtual 190, 3)), (2036, (.if_icmp .eq 688, 3)), (2039, (.iconst 0, 1)), (2040, (.ireturn, 1)), (2041, (.aload_n 1, 1)), (2042, (.aload_n 0, 1)), (2043, (.iload 4, 2)), (2045, (.iconst 1, 1)), (2046, (.iadd, 1)), (2047, (.iaload, 1))], [(2048, (.aload_n 0, 1)), (2049, (.iload 4, 2)), (2051, (.iconst 2, 1)), (2052, (.iadd, 1)), (2053, (.iaload, 1)), (2054, (.aload_n 3, 1)), (2055, (.invokestatic 191, 3)), (2058, (.istore 5, 2)), (2060, (.aload_n 2, 1)), (2061, (.aload_n 0, 1)), (2062, (.iload 4, 2))], [(2064, (.iconst 1, 1)), (2065, (.iadd, 1)), (2066, (.iaload, 1)), (2067, (.aload_n 0, 1)), (2068, (.iload 4, 2)), (2070, (.iconst 2, 1)), (2071, (.iadd, 1)), (2072, (.iaload, 1)), (2073, (.invokevirtual 194, 3)), (2076, (.lstore 6, 2)), (2078, (.aload_n 2, 1)), (2079, (.invokevirtual 98, 3))], [(2082, (.iload 5, 2)), (2084, (.if_icmp .eq 5, 3)), (2087, (.iconst 0, 1)), (2088, (.ireturn, 1)), (2089, (.iload 5, 2)), (2091, (.ifCond .ne 14, 3)), (2094, (.aload_n 3, 1)), (2095, (.iconst 0, 1))], [(2096, (.laload, 1)), (2097, (.lload 6, 2)), (2099, (.lcmp, 1)), (2100, (.ifCond .eq 5, 3)), (2103, (.iconst 0, 1)), (2104, (.ireturn, 1)), (2105, (.goto 619, 3)), (2108, (.aload_n 1, 1)), (2109, (.aload_n 0, 1)), (2110, (.iload 4, 2))], [(2112, (.iconst 1, 1)), (2113, (.iadd, 1)), (2114, (.iaload, 1)), (2115, (.aload_n 3, 1)), (2116, (.invokestatic 195, 3)), (2119, (.istore 5, 2)), (2121, (.aload_n 2, 1)), (2122, (.aload_n 0, 1)), (2123, (.iload 4, 2)), (2125, (.iconst 1, 1)), (2126, (.iadd, 1)), (2127, (.iaload, 1))], [(2128, (.invokevirtual 198, 3)), (2131, (.lstore 6, 2)), (2133, (.aload_n 2, 1)), (2134, (.invokevirtual 98, 3)), (2137, (.iload 5, 2)), (2139, (.if_icmp .eq 5, 3)), (2142, (.iconst 0, 1)), (2143, (.ireturn, 1))], [(2144, (.iload 5, 2)), (2146, (.ifCond .ne 14, 3)), (2149, (.aload_n 3, 1)), (2150, (.iconst 0, 1)), (2151, (.laload, 1)), (2152, (.lload 6, 2)), (2154, (.lcmp, 1)), (2155, (.ifCond .eq 5, 3)), (2158, (.iconst 0, 1)), (2159, (.ireturn, 1))], [(2160, (.goto 564, 3)), (2163, (.aload_n 1, 1)), (2164, (.aload_n 0, 1)), (2165, (.iload 4, 2)), (2167, (.iconst 1, 1)), (2168, (.iadd, 1)), (2169, (.iaload, 1)), (2170, (.aload_n 0, 1)), (2171, (.iload 4, 2)), (2173, (.iconst 2, 1)), (2174, (.iadd, 1)), (2175, (.iaload, 1))], [(2176, (.aload_n 0, 1)), (2177, (.iload 4, 2)), (2179, (.iconst 3, 1)), (2180, (.iadd, 1)), (2181, (.iaload, 1)), (2182, (.aload_n 0, 1)), (2183, (.iload 4, 2)), (2185, (.iconst 4, 1)), (2186, (.iadd, 1)), (2187, (.iaload, 1)), (2188, (.invokevirtual 199, 3)), (2191, (.aload_n 2, 1))], [(2192, (.aload_n 0, 1)), (2193, (.iload 4, 2)), (2195, (.iconst 1, 1)), (2196, (.iadd, 1)), (2197, (.iaload, 1)), (2198, (.aload_n 0, 1)), (2199, (.iload 4, 2)), (2201, (.iconst 2, 1)), (2202, (.iadd, 1)), (2203, (.iaload, 1)), (2204, (.aload_n 0, 1)), (2205, (.iload 4, 2)), (2207, (.iconst 3, 1))], [(2208, (.iadd, 1)), (2209, (.iaload, 1)), (2210, (.aload_n 0, 1)), (2211, (.iload 4, 2)), (2213, (.iconst 4, 1)), (2214, (.iadd, 1)), (2215, (.iaload, 1)), (2216, (.invokevirtual 202, 3)), (2219, (.if_icmp .eq 505, 3)), (2222, (.iconst 0, 1)), (2223, (.ireturn, 1))], [(2224, (.aload_n 1, 1)), (2225, (.aload_n 0, 1)), (2226, (.iload 4, 2)), (2228, (.iconst 1, 1)), (2229, (.iadd, 1)), (2230, (.iaload, 1)), (2231, (.aload_n 0, 1)), (2232, (.iload 4, 2)), (2234, (.iconst 2, 1)), (2235, (.iadd, 1)), (2236, (.iaload, 1)), (2237, (.aload_n 0, 1)), (2238, (.iload 4, 2))], [(2240, (.iconst 3, 1)), (2241, (.iadd, 1)), (2242, (.iaload, 1)), (2243, (.aload_n 3, 1)), (2244, (.invokestatic 203, 3)), (2247, (.istore 5, 2)), (2249, (.aload_n 2, 1)), (2250, (.aload_n 0, 1)), (2251, (.iload 4, 2)), (2253, (.iconst 1, 1)), (2254, (.iadd, 1)), (2255, (.iaload, 1))], [(2256, (.aload_n 0, 1)), (2257, (.iload 4, 2)), (2259, (.iconst 2, 1)), (2260, (.iadd, 1)), (2261, (.iaload, 1)), (2262, (.aload_n 0, 1)), (2263, (.iload 4, 2)), (2265, (.iconst 3, 1)), (2266, (.iadd, 1)), (2267, (.iaload, 1)), (2268, (.invokevirtual 205, 3)), (2271, (.lstore 6, 2))], [(2273, (.aload_n 2, 1)), (2274, (.invokevirtual 98, 3)), (2277, (.iload 5, 2)), (2279, (.if_icmp .eq 5, 3)), (2282, (.iconst 0, 1)), (2283, (.ireturn, 1)), (2284, (.iload 5, 2)), (2286, (.ifCond .ne 14, 3))], [(2289, (.aload_n 3, 1)), (2290, (.iconst 0, 1)), (2291, (.laload, 1)), (2292, (.lload 6, 2)), (2294, (.lcmp, 1)), (2295, (.ifCond .eq 5, 3)), (2298, (.iconst 0, 1)), (2299, (.ireturn, 1)), (2300, (.goto 424, 3)), (2303, (.aload_n 1, 1))], [(2304, (.aload_n 0, 1)), (2305, (.iload 4, 2)), (2307, (.iconst 1, 1)), (2308, (.iadd, 1)), (2309, (.iaload, 1)), (2310, (.aload_n 0, 1)), (2311, (.iload 4, 2)), (2313, (.iconst 2, 1)), (2314, (.iadd, 1)), (2315, (.iaload, 1)), (2316, (.aload_n 0, 1)), (2317, (.iload 4, 2)), (2319, (.iconst 3, 1))], [(2320, (.iadd, 1)), (2321, (.iaload, 1)), (2322, (.aload_n 0, 1)), (2323, (.iload 4, 2)), (2325, (.iconst 4, 1)), (2326, (.iadd, 1)), (2327, (.iaload, 1)), (2328, (.aload_n 3, 1)), (2329, (.invokestatic 206, 3)), (2332, (.istore 5, 2)), (2334, (.aload_n 2, 1)), (2335, (.aload_n 0, 1))], [(2336, (.iload 4, 2)), (2338, (.iconst 1, 1)), (2339, (.iadd, 1)), (2340, (.iaload, 1)), (2341, (.aload_n 0, 1)), (2342, (.iload 4, 2)), (2344, (.iconst 2, 1)), (2345, (.iadd, 1)), (2346, (.iaload, 1)), (2347, (.aload_n 0, 1)), (2348, (.iload 4, 2)), (2350, (.iconst 3, 1)), (2351, (.iadd, 1))], [(2352, (.iaload, 1)), (2353, (.aload_n 0, 1)), (2354, (.iload 4, 2)), (2356, (.iconst 4, 1)), (2357, (.iadd, 1)), (2358, (.iaload, 1)), (2359, (.invokevirtual 208, 3)), (2362, (.lstore 6, 2)), (2364, (.aload_n 2, 1)), (2365, (.invokevirtual 98, 3))], [(2368, (.iload 5, 2)), (2370, (.if_icmp .eq 5, 3)), (2373, (.iconst 0, 1)), (2374, (.ireturn, 1)), (2375, (.iload 5, 2)), (2377, (.ifCond .ne 14, 3)), (2380, (.aload_n 3, 1)), (2381, (.iconst 0, 1)), (2382, (.laload, 1)), (2383, (.lload 6, 2))], [(2385, (.lcmp, 1)), (2386, (.ifCond .eq 5, 3)), (2389, (.iconst 0, 1)), (2390, (.ireturn, 1)), (2391, (.goto 333, 3)), (2394, (.aload_n 1, 1)), (2395, (.aload_n 0, 1)), (2396, (.iload 4, 2)), (2398, (.iconst 1, 1)), (2399, (.iadd, 1))], [(2400, (.iaload, 1)), (2401, (.aload_n 0, 1)), (2402, (.iload 4, 2)), (2404, (.iconst 2, 1)), (2405, (.iadd, 1)), (2406, (.iaload, 1)), (2407, (.aload_n 0, 1)), (2408, (.iload 4, 2)), (2410, (.iconst 3, 1)), (2411, (.iadd, 1)), (2412, (.iaload, 1)), (2413, (.aload_n 0, 1)), (2414, (.iload 4, 2))], [(2416, (.iconst 4, 1)), (2417, (.iadd, 1)), (2418, (.iaload, 1)), (2419, (.invokevirtual 209, 3)), (2422, (.aload_n 2, 1)), (2423, (.aload_n 0, 1)), (2424, (.iload 4, 2)), (2426, (.iconst 1, 1)), (2427, (.iadd, 1)), (2428, (.iaload, 1)), (2429, (.aload_n 0, 1)), (2430, (.iload 4, 2))], [(2432, (.iconst 2, 1)), (2433, (.iadd, 1)), (2434, (.iaload, 1)), (2435, (.aload_n 0, 1)), (2436, (.iload 4, 2)), (2438, (.iconst 3, 1)), (2439, (.iadd, 1)), (2440, (.iaload, 1)), (2441, (.aload_n 0, 1)), (2442, (.iload 4, 2)), (2444, (.iconst 4, 1)), (2445, (.iadd, 1)), (2446, (.iaload, 1)), (2447, (.invokevirtual 212, 3))], [(2450, (.lcmp, 1)), (2451, (.ifCond .eq 273, 3)), (2454, (.iconst 0, 1)), (2455, (.ireturn, 1)), (2456, (.aload_n 1, 1)), (2457, (.aload_n 0, 1)), (2458, (.iload 4, 2)), (2460, (.iconst 1, 1)), (2461, (.iadd, 1)), (2462, (.iaload, 1)), (2463, (.aload_n 0, 1))], [(2464, (.iload 4, 2)), (2466, (.iconst 2, 1)), (2467, (.iadd, 1)), (2468, (.iaload, 1)), (2469, (.aload_n 0, 1)), (2470, (.iload 4, 2)), (2472, (.iconst 3, 1)), (2473, (.iadd, 1)), (2474, (.iaload, 1)), (2475, (.invokevirtual 213, 3)), (2478, (.aload_n 2, 1)), (2479, (.aload_n 0, 1))], [(2480, (.iload 4, 2)), (2482, (.iconst 1, 1)), (2483, (.iadd, 1)), (2484, (.iaload, 1)), (2485, (.aload_n 0, 1)), (2486, (.iload 4, 2)), (2488, (.iconst 2, 1)), (2489, (.iadd, 1)), (2490, (.iaload, 1)), (2491, (.aload_n 0, 1)), (2492, (.iload 4, 2)), (2494, (.iconst 3, 1)), (2495, (.iadd, 1))], [(2496, (.iaload, 1)), (2497, (.invokevirtual 217, 3)), (2500, (.if_icmp .eq 224, 3)), (2503, (.iconst 0, 1)), (2504, (.ireturn, 1)), (2505, (.aload_n 1, 1)), (2506, (.aload_n 0, 1)), (2507, (.iload 4, 2)), (2509, (.iconst 1, 1)), (2510, (.iadd, 1)), (2511, (.iaload, 1))], [(2512, (.aload_n 0, 1)), (2513, (.iload 4, 2)), (2515, (.iconst 2, 1)), (2516, (.iadd, 1)), (2517, (.iaload, 1)), (2518, (.invokevirtual 218, 3)), (2521, (.aload_n 2, 1)), (2522, (.aload_n 0, 1)), (2523, (.iload 4, 2)), (2525, (.iconst 1, 1)), (2526, (.iadd, 1)), (2527, (.iaload, 1))], [(2528, (.aload_n 0, 1)), (2529, (.iload 4, 2)), (2531, (.iconst 2, 1)), (2532, (.iadd, 1)), (2533, (.iaload, 1)), (2534, (.invokevirtual 221, 3)), (2537, (.if_icmp .eq 187, 3)), (2540, (.iconst 0, 1)), (2541, (.ireturn, 1)), (2542, (.aload_n 1, 1)), (2543, (.aload_n 0, 1))], [(2544, (.iload 4, 2)), (2546, (.iconst 1, 1)), (2547, (.iadd, 1)), (2548, (.iaload, 1)), (2549, (.aload_n 0, 1)), (2550, (.iload 4, 2)), (2552, (.iconst 2, 1)), (2553, (.iadd, 1)), (2554, (.iaload, 1)), (2555, (.aload_n 0, 1)), (2556, (.iload 4, 2)), (2558, (.iconst 3, 1)), (2559, (.iadd, 1))], [(2560, (.iaload, 1)), (2561, (.aload_n 3, 1)), (2562, (.invokestatic 222, 3)), (2565, (.istore 5, 2)), (2567, (.aload_n 2, 1)), (2568, (.aload_n 0, 1)), (2569, (.iload 4, 2)), (2571, (.iconst 1, 1)), (2572, (.iadd, 1)), (2573, (.iaload, 1)), (2574, (.aload_n 0, 1)), (2575, (.iload 4, 2))], [(2577, (.iconst 2, 1)), (2578, (.iadd, 1)), (2579, (.iaload, 1)), (2580, (.aload_n 0, 1)), (2581, (.iload 4, 2)), (2583, (.iconst 3, 1)), (2584, (.iadd, 1)), (2585, (.iaload, 1)), (2586, (.invokevirtual 224, 3)), (2589, (.lstore 6, 2)), (2591, (.aload_n 2, 1))], [(2592, (.invokevirtual 98, 3)), (2595, (.iload 5, 2)), (2597, (.if_icmp .eq 5, 3)), (2600, (.iconst 0, 1)), (2601, (.ireturn, 1)), (2602, (.iload 5, 2)), (2604, (.ifCond .ne 14, 3)), (2607, (.aload_n 3, 1))], [(2608, (.iconst 0, 1)), (2609, (.laload, 1)), (2610, (.lload 6, 2)), (2612, (.lcmp, 1)), (2613, (.ifCond .eq 5, 3)), (2616, (.iconst 0, 1)), (2617, (.ireturn, 1)), (2618, (.goto 106, 3)), (2621, (.aload_n 1, 1)), (2622, (.aload_n 0, 1)), (2623, (.iload 4, 2))], [(2625, (.iconst 1, 1)), (2626, (.iadd, 1)), (2627, (.iaload, 1)), (2628, (.invokevirtual 225, 3)), (2631, (.aload_n 2, 1)), (2632, (.aload_n 0, 1)), (2633, (.iload 4, 2)), (2635, (.iconst 1, 1)), (2636, (.iadd, 1)), (2637, (.iaload, 1)), (2638, (.invokevirtual 228, 3))], [(2641, (.if_icmp .eq 83, 3)), (2644, (.iconst 0, 1)), (2645, (.ireturn, 1)), (2646, (.aload_n 1, 1)), (2647, (.aload_n 0, 1)), (2648, (.iload 4, 2)), (2650, (.iconst 1, 1)), (2651, (.iadd, 1)), (2652, (.iaload, 1)), (2653, (.aload_n 0, 1)), (2654, (.iload 4, 2))], [(2656, (.iconst 2, 1)), (2657, (.iadd, 1)), (2658, (.iaload, 1)), (2659, (.ifCond .eq 7, 3)), (2662, (.iconst 1, 1)), (2663, (.goto 4, 3)), (2666, (.iconst 0, 1)), (2667, (.invokevirtual 229, 3)), (2670, (.aload_n 2, 1)), (2671, (.aload_n 0, 1))], [(2672, (.iload 4, 2)), (2674, (.iconst 1, 1)), (2675, (.iadd, 1)), (2676, (.iaload, 1)), (2677, (.aload_n 0, 1)), (2678, (.iload 4, 2)), (2680, (.iconst 2, 1)), (2681, (.iadd, 1)), (2682, (.iaload, 1)), (2683, (.ifCond .eq 7, 3)), (2686, (.iconst 1, 1)), (2687, (.goto 4, 3))], [(2690, (.iconst 0, 1)), (2691, (.invokevirtual 233, 3)), (2694, (.if_icmp .eq 30, 3)), (2697, (.iconst 0, 1)), (2698, (.ireturn, 1)), (2699, (.aload_n 1, 1)), (2700, (.aload_n 0, 1)), (2701, (.iload 4, 2)), (2703, (.iconst 1, 1))], [(2704, (.iadd, 1)), (2705, (.iaload, 1)), (2706, (.invokevirtual 234, 3)), (2709, (.aload_n 2, 1)), (2710, (.aload_n 0, 1)), (2711, (.iload 4, 2)), (2713, (.iconst 1, 1)), (2714, (.iadd, 1)), (2715, (.iaload, 1)), (2716, (.invokevirtual 237, 3)), (2719, (.if_icmp .eq 5, 3))], [(2722, (.iconst 0, 1)), (2723, (.ireturn, 1)), (2724, (.iinc 4 7, 3)), (2727, (.goto (-2704), 3)), (2730, (.iconst 1, 1)), (2731, (.ireturn, 1))]]
set_option maxRecDepth 100000 in
def pmc_310 : pm_T (Instr × Nat) := [[(0, (.aload 5, 2)), (2, (.iconst 0, 1)), (3, (.aload_n 0, 1)), (4, (.iload_n 1, 1)), (5, (.iload_n 2, 1)), (6, (.iload_n 3, 1)), (7, (.iload 4, 2)), (9, (.invokevirtual 7, 3)), (12, (.i2l, 1)), (13, (.lastore, 1)), (14, (.goto 7, 3))], [(17, (.astore 6, 2)), (19, (.iconst 1, 1)), (20, (.ireturn, 1)), (21, (.iconst 0, 1)), (22, (.ireturn, 1))]]
set_option maxRecDepth 100000 in
def pmc_311 : pm_T (Instr × Nat) := [[(0, (.aload 5, 2)), (2, (.iconst 0, 1)), (3, (.aload_n 0, 1)), (4, (.iload_n 1, 1)), (5, (.iload_n 2, 1)), (6, (.iload_n 3, 1)), (7, (.iload 4, 2)), (9, (.invokevirtual 15, 3)), (12, (.lastore, 1)), (13, (.goto 7, 3))], [(16, (.astore 6, 2)), (18, (.iconst 1, 1)), (19, (.ireturn, 1)), (20, (.iconst 0, 1)), (21, (.ireturn, 1))]]
set_option maxRecDepth 100000 in
def pmc_312 : pm_T (Instr × Nat) := [[(0, (.aload 5, 2)), (2, (.iconst 0, 1)), (3, (.aload_n 0, 1)), (4, (.iload_n 1, 1)), (5, (.iload_n 2, 1)), (6, (.iload_n 3, 1)), (7, (.iload 4, 2)), (9, (.invokevirtual 19, 3)), (12, (.lastore, 1)), (13, (.goto 7, 3))], [(16, (.astore 6, 2)), (18, (.iconst 1, 1)), (19, (.ireturn, 1)), (20, (.iconst 0, 1)), (21, (.ireturn, 1))]]
set_option maxRecDepth 100000 in
def pmc_313 : pm_T (Instr × Nat) := [[(0, (.aload 4, 2)), (2, (.iconst 0, 1)), (3, (.aload_n 0, 1)), (4, (.iload_n 1, 1)), (5, (.iload_n 2, 1)), (6, (.iload_n 3, 1)), (7, (.invokevirtual 22, 3)), (10, (.lastore, 1)), (11, (.goto 7, 3)), (14, (.astore 5, 2))], [(16, (.iconst 1, 1)), (17, (.ireturn, 1)), (18, (.iconst 0, 1)), (19, (.ireturn, 1))]]
set_option maxRecDepth 100000 in
def pmc_314 : pm_T (Instr × Nat) := [[(0, (.aload 5, 2)), (2, (.iconst 0, 1)), (3, (.aload_n 0, 1)), (4, (.iload_n 1, 1)), (5, (.iload_n 2, 1)), (6, (.iload_n 3, 1)), (7, (.iload 4, 2)), (9, (.invokevirtual 26, 3)), (12, (.lastore, 1)), (13, (.goto 7, 3))], [(16, (.astore 6, 2)), (18, (.iconst 1, 1)), (19, (.ireturn, 1)), (20, (.iconst 0, 1)), (21, (.ireturn, 1))]]
set_option maxRecDepth 100000 in
def pmc_315 : pm_T (Instr × Nat) := [[(0, (.aload 5, 2)), (2, (.iconst 0, 1)), (3, (.aload_n 0, 1)), (4, (.iload_n 1, 1)), (5, (.iload_n 2, 1)), (6, (.iload_n 3, 1)), (7, (.iload 4, 2)), (9, (.invokevirtual 30, 3)), (12, (.lastore, 1)), (13, (.goto 7, 3))], [(16, (.astore 6, 2)), (18, (.iconst 1, 1)), (19, (.ireturn, 1)), (20, (.iconst 0, 1)), (21, (.ireturn, 1))]]
set_option maxRecDepth 100000 in
def pmc_316 : pm_T (Instr × Nat) := [[(0, (.aload 4, 2)), (2, (.iconst 0, 1)), (3, (.aload_n 0, 1)), (4, (.iload_n 1, 1)), (5, (.iload_n 2, 1)), (6, (.iload_n 3, 1)), (7, (.invokevirtual 33, 3)), (10, (.lastore, 1)), (11, (.goto 7, 3)), (14, (.astore 5, 2))], [(16, (.iconst 1, 1)), (17, (.ireturn, 1)), (18, (.iconst 0, 1)), (19, (.ireturn, 1))]]
set_option maxRecDepth 100000 in
def pmc_317 : pm_T (Instr × Nat) := [[(0, (.aload 5, 2)), (2, (.iconst 0, 1)), (3, (.aload_n 0, 1)), (4, (.iload_n 1, 1)), (5, (.iload_n 2, 1)), (6, (.iload_n 3, 1)), (7, (.iload 4, 2)), (9, (.invokevirtual 36, 3)), (12, (.lastore, 1)), (13, (.goto 7, 3))], [(16, (.astore 6, 2)), (18, (.iconst 1, 1)), (19, (.ireturn, 1)), (20, (.iconst 0, 1)), (21, (.ireturn, 1))]]
set_option maxRecDepth 100000 in
def pmc_318 : pm_T (Instr × Nat) := [[(0, (.aload_n 3, 1)), (1, (.iconst 0, 1)), (2, (.aload_n 0, 1)), (3, (.iload_n 1, 1)), (4, (.iload_n 2, 1)), (5, (.invokevirtual 39, 3)), (8, (.lastore, 1)), (9, (.goto 7, 3)), (12, (.astore 4, 2)), (14, (.iconst 1, 1)), (15, (.ireturn, 1))], [(16, (.iconst 0, 1)), (17, (.ireturn, 1))]]
set_option maxRecDepth 100000 in
def pmc_319 : pm_T (Instr × Nat) := [[(0, (.aload_n 3, 1)), (1, (.iconst 0, 1)), (2, (.aload_n 0, 1)), (3, (.iload_n 1, 1)), (4, (.iload_n 2, 1)), (5, (.invokevirtual 43, 3)), (8, (.lastore, 1)), (9, (.goto 7, 3)), (12, (.astore 4, 2)), (14, (.iconst 1, 1)), (15, (.ireturn, 1))], [(16, (.iconst 0, 1)), (17, (.ireturn, 1))]]
set_option maxRecDepth 100000 in
def pmc_320 : pm_T (Instr × Nat) := [[(0, (.aload_n 2, 1)), (1, (.iconst 0, 1)), (2, (.aload_n 0, 1)), (3, (.iload_n 1, 1)), (4, (.invokevirtual 47, 3)), (7, (.lastore, 1)), (8, (.goto 6, 3)), (11, (.astore_n 3, 1)), (12, (.iconst 1, 1)), (13, (.ireturn, 1)), (14, (.iconst 0, 1)), (15, (.ireturn, 1))]]
set_option maxRecDepth 100000 in
def pmc_321 : pm_T (Instr × Nat) := [[(0, (.aload 4, 2)), (2, (.iconst 0, 1)), (3, (.aload_n 0, 1)), (4, (.iload_n 1, 1)), (5, (.iload_n 2, 1)), (6, (.iload_n 3, 1)), (7, (.invokevirtual 51, 3)), (10, (.lastore, 1)), (11, (.goto 7, 3)), (14, (.astore 5, 2))], [(16, (.iconst 1, 1)), (17, (.ireturn, 1)), (18, (.iconst 0, 1)), (19, (.ireturn, 1))]]
set_option maxRecDepth 100000 in
def pmc_322 : pm_T (Instr × Nat) := [[(0, (.aload 5, 2)), (2, (.iconst 0, 1)), (3, (.aload_n 0, 1)), (4, (.iload_n 1, 1)), (5, (.iload_n 2, 1)), (6, (.iload_n 3, 1)), (7, (.iload 4, 2)), (9, (.invokevirtual 54, 3)), (12, (.lastore, 1)), (13, (.goto 7, 3))], [(16, (.astore 6, 2)), (18, (.iconst 1, 1)), (19, (.ireturn, 1)), (20, (.iconst 0, 1)), (21, (.ireturn, 1))]]
set_option maxRecDepth 100000 in
def pmc_323 : pm_T (Instr × Nat) := [[(0, (.aload 4, 2)), (2, (.iconst 0, 1)), (3, (.aload_n 0, 1)), (4, (.iload_n 1, 1)), (5, (.iload_n 2, 1)), (6, (.iload_n 3, 1)), (7, (.invokevirtual 57, 3)), (10, (.lastore, 1)), (11, (.goto 7, 3)), (14, (.astore 5, 2))], [(16, (.iconst 1, 1)), (17, (.ireturn, 1)), (18, (.iconst 0, 1)), (19, (.ireturn, 1))]]
end
section
/-! the methods by their numbers, the links by class and pool index (printed by wip/tool) -/
def pm_mt : pm_T pm_M := [[(0, (1, 1, 0, 4, pmc_0)), (1, (5, 6, 0, 4, pmc_1)), (2, (3, 3, 0, 0, pmc_2)), (3, (3, 3, 0, 0, pmc_3)), (4, (3, 3, 0, 0, pmc_4)), (5, (1, 1, 1, 4, pmc_5)), (6, (3, 7, 1, 4, pmc_6)), (7, (2, 11, 1, 2, pmc_7)), (8, (1, 1, 1, 0, pmc_8)), (9, (2, 2, 1, 2, pmc_9)), (10, (1, 1, 1, 4, pmc_10)), (11, (2, 2, 1, 1, pmc_11)), (12, (2, 2, 1, 4, pmc_12)), (13, (3, 5, 1, 1, pmc_13)), (14, (2, 2, 1, 4, pmc_14)), (15, (1, 1, 2, 4, pmc_15))], [(16, (3, 3, 2, 4, pmc_16)), (17, (3, 3, 2, 4, pmc_17)), (18, (5, 5, 2, 4, pmc_18)), (19, (3, 3, 2, 1, pmc_19)), (20, (4, 4, 2, 0, pmc_20)), (21, (3, 3, 2, 0, pmc_21)), (22, (3, 3, 2, 0, pmc_22)), (23, (4, 4, 2, 1, pmc_23)), (24, (5, 5, 2, 0, pmc_24)), (25, (2, 2, 2, 4, pmc_25)), (26, (3, 3, 2, 1, pmc_26)), (27, (2, 4, 2, 0, pmc_27)), (28, (2, 4, 2, 0, pmc_28)), (29, (1, 3, 2, 0, pmc_29)), (30, (1, 1, 3, 4, pmc_30)), (31, (4, 4, 3, 4, pmc_31))], [(32, (1, 1, 3, 1, pmc_32)), (33, (1, 1, 3, 0, pmc_33)), (34, (3, 3, 3, 4, pmc_34)), (35, (1, 1, 4, 4, pmc_35)), (36, (1, 1, 4, 1, pmc_36)), (37, (4, 4, 4, 0, pmc_37)), (38, (2, 4, 4, 0, pmc_38)), (39, (2, 4, 4, 0, pmc_39)), (40, (1, 1, 4, 0, pmc_40)), (41, (2, 2, 4, 4, pmc_41)), (42, (1, 3, 4, 0, pmc_42)), (43, (4, 4, 5, 4, pmc_43)), (44, (3, 5, 5, 0, pmc_44)), (45, (3, 3, 5, 0, pmc_45)), (46, (3, 4, 5, 0, pmc_46)), (47, (3, 7, 5, 0, pmc_47))], [(48, (2, 2, 5, 4, pmc_48)), (49, (2, 2, 5, 4, pmc_49)), (50, (3, 5, 5, 0, pmc_50)), (51, (2, 2, 5, 0, pmc_51)), (52, (3, 3, 5, 4, pmc_52)), (53, (1, 1, 5, 0, pmc_53)), (54, (2, 2, 5, 0, pmc_54)), (55, (1, 2, 5, 0, pmc_55)), (56, (3, 3, 5, 0, pmc_56)), (57, (1, 1, 6, 4, pmc_57)), (58, (6, 6, 6, 4, pmc_58)), (59, (2, 2, 6, 1, pmc_59)), (60, (2, 2, 6, 0, pmc_60)), (61, (2, 2, 6, 0, pmc_61)), (62, (2, 4, 6, 0, pmc_62)), (63, (3, 3, 6, 1, pmc_63))], [(64, (2, 2, 6, 0, pmc_64)), (65, (2, 2, 6, 1, pmc_65)), (66, (1, 3, 6, 0, pmc_66)), (67, (2, 2, 7, 4, pmc_67)), (68, (1, 2, 7, 4, pmc_68)), (69, (2, 2, 7, 1, pmc_69)), (70, (2, 2, 7, 4, pmc_70)), (71, (3, 3, 7, 4, pmc_71)), (72, (3, 3, 7, 4, pmc_72)), (73, (2, 3, 7, 4, pmc_73)), (74, (4, 4, 7, 0, pmc_74)), (75, (3, 6, 7, 0, pmc_75)), (76, (3, 3, 7, 0, pmc_76)), (77, (3, 3, 7, 0, pmc_77)), (78, (2, 3, 7, 0, pmc_78)), (79, (3, 3, 7, 0, pmc_79))], [(80, (1, 1, 8, 4, pmc_80)), (81, (1, 1, 8, 4, pmc_81)), (82, (4, 4, 8, 4, pmc_82)), (83, (2, 6, 8, 1, pmc_83)), (84, (2, 4, 8, 0, pmc_84)), (85, (2, 4, 8, 0, pmc_85)), (86, (1, 1, 8, 1, pmc_86)), (87, (2, 11, 8, 4, pmc_87)), (88, (1, 3, 8, 4, pmc_88)), (89, (2, 4, 8, 0, pmc_89)), (90, (3, 10, 8, 4, pmc_90)), (91, (4, 7, 8, 0, pmc_91)), (92, (2, 4, 8, 0, pmc_92)), (93, (2, 2, 8, 4, pmc_93)), (94, (4, 8, 8, 2, pmc_94)), (95, (2, 5, 8, 4, pmc_95))], [(96, (1, 1, 9, 4, pmc_96)), (97, (2, 6, 9, 4, pmc_97)), (98, (1, 1, 9, 0, pmc_98)), (99, (1, 1, 9, 4, pmc_99)), (100, (1, 1, 9, 4, pmc_100)), (101, (1, 1, 9, 4, pmc_101)), (102, (1, 1, 9, 1, pmc_102)), (103, (1, 1, 9, 1, pmc_103)), (104, (1, 1, 9, 4, pmc_104)), (105, (1, 1, 9, 1, pmc_105)), (106, (1, 1, 9, 4, pmc_106)), (107, (1, 1, 9, 0, pmc_107)), (108, (2, 7, 9, 0, pmc_108)), (109, (2, 2, 9, 1, pmc_109)), (110, (1, 1, 9, 0, pmc_110)), (111, (1, 1, 9, 0, pmc_111))], [(112, (4, 4, 10, 4, pmc_112)), (113, (4, 6, 10, 4, pmc_113)), (114, (4, 9, 10, 4, pmc_114)), (115, (4, 7, 10, 4, pmc_115)), (116, (1, 1, 10, 0, pmc_116)), (117, (1, 1, 10, 3, pmc_117)), (118, (1, 2, 11, 4, pmc_118)), (119, (6, 6, 11, 1, pmc_119)), (120, (1, 1, 11, 1, pmc_120)), (121, (3, 3, 11, 1, pmc_121)), (122, (1, 1, 11, 1, pmc_122)), (123, (5, 5, 11, 1, pmc_123)), (124, (2, 2, 11, 1, pmc_124)), (125, (1, 1, 11, 1, pmc_125)), (126, (5, 5, 11, 1, pmc_126)), (127, (2, 2, 11, 1, pmc_127))], [(128, (5, 5, 11, 1, pmc_128)), (129, (3, 3, 11, 0, pmc_129)), (130, (3, 3, 11, 0, pmc_130)), (131, (2, 2, 11, 1, pmc_131)), (132, (4, 7, 11, 4, pmc_132)), (133, (4, 4, 11, 0, pmc_133)), (134, (3, 13, 11, 0, pmc_134)), (135, (4, 4, 11, 0, pmc_135)), (136, (4, 4, 11, 2, pmc_136)), (137, (1, 1, 11, 1, pmc_137)), (138, (3, 4, 11, 4, pmc_138)), (139, (3, 5, 11, 2, pmc_139)), (140, (4, 7, 11, 0, pmc_140)), (141, (2, 2, 11, 0, pmc_141)), (142, (1, 1, 11, 1, pmc_142)), (143, (3, 4, 11, 0, pmc_143))], [(144, (5, 5, 11, 0, pmc_144)), (145, (3, 3, 11, 2, pmc_145)), (146, (3, 7, 11, 2, pmc_146)), (147, (2, 6, 11, 2, pmc_147)), (148, (2, 8, 11, 0, pmc_148)), (149, (6, 8, 11, 0, pmc_149)), (150, (3, 4, 11, 4, pmc_150)), (151, (4, 4, 11, 0, pmc_151)), (152, (2, 3, 11, 0, pmc_152)), (153, (2, 2, 11, 0, pmc_153)), (154, (3, 4, 11, 0, pmc_154)), (155, (2, 2, 11, 0, pmc_155)), (156, (4, 5, 11, 1, pmc_156)), (157, (2, 2, 11, 0, pmc_157)), (158, (2, 2, 11, 0, pmc_158)), (159, (3, 3, 11, 1, pmc_159))], [(160, (5, 5, 11, 1, pmc_160)), (161, (5, 5, 11, 2, pmc_161)), (162, (3, 3, 11, 0, pmc_162)), (163, (4, 6, 11, 0, pmc_163)), (164, (3, 8, 11, 0, pmc_164)), (165, (2, 6, 11, 0, pmc_165)), (166, (2, 7, 11, 0, pmc_166)), (167, (3, 3, 11, 1, pmc_167)), (168, (2, 2, 11, 0, pmc_168)), (169, (5, 7, 11, 0, pmc_169)), (170, (5, 8, 11, 0, pmc_170)), (171, (5, 6, 11, 2, pmc_171)), (172, (5, 6, 11, 2, pmc_172)), (173, (4, 4, 11, 2, pmc_173)), (174, (1, 1, 11, 1, pmc_174)), (175, (1, 1, 11, 1, pmc_175))], [(176, (1, 1, 11, 0, pmc_176)), (177, (5, 7, 11, 2, pmc_177)), (178, (5, 6, 11, 2, pmc_178)), (179, (4, 5, 11, 2, pmc_179)), (180, (5, 5, 11, 2, pmc_180)), (181, (3, 3, 11, 2, pmc_181)), (182, (3, 4, 11, 2, pmc_182)), (183, (3, 6, 11, 1, pmc_183)), (184, (2, 6, 11, 2, pmc_184)), (185, (2, 2, 11, 1, pmc_185)), (186, (3, 4, 11, 4, pmc_186)), (187, (4, 4, 11, 2, pmc_187)), (188, (3, 3, 11, 2, pmc_188)), (189, (3, 3, 11, 2, pmc_189)), (190, (3, 3, 11, 2, pmc_190)), (191, (3, 3, 11, 2, pmc_191))], [(192, (3, 3, 11, 2, pmc_192)), (193, (5, 8, 11, 2, pmc_193)), (194, (5, 7, 11, 2, pmc_194)), (195, (4, 7, 11, 2, pmc_195)), (196, (5, 7, 11, 0, pmc_196)), (197, (1, 1, 12, 0, pmc_197)), (198, (4, 7, 12, 0, pmc_198)), (199, (2, 5, 12, 4, pmc_199)), (200, (1, 2, 12, 4, pmc_200)), (201, (6, 6, 12, 1, pmc_201)), (202, (3, 3, 12, 1, pmc_202)), (203, (5, 8, 12, 1, pmc_203)), (204, (2, 2, 12, 1, pmc_204)), (205, (1, 1, 12, 1, pmc_205)), (206, (5, 6, 12, 1, pmc_206)), (207, (2, 2, 12, 1, pmc_207))], [(208, (5, 6, 12, 1, pmc_208)), (209, (3, 3, 12, 0, pmc_209)), (210, (3, 3, 12, 0, pmc_210)), (211, (3, 3, 12, 0, pmc_211)), (212, (5, 11, 12, 0, pmc_212)), (213, (2, 2, 12, 1, pmc_213)), (214, (4, 4, 12, 1, pmc_214)), (215, (4, 4, 12, 0, pmc_215)), (216, (5, 5, 12, 2, pmc_216)), (217, (1, 1, 12, 1, pmc_217)), (218, (4, 5, 12, 1, pmc_218)), (219, (1, 1, 12, 4, pmc_219)), (220, (3, 4, 12, 4, pmc_220)), (221, (1, 1, 12, 1, pmc_221)), (222, (2, 4, 12, 2, pmc_222)), (223, (2, 10, 12, 2, pmc_223))], [(224, (5, 9, 12, 2, pmc_224)), (225, (4, 4, 12, 2, pmc_225)), (226, (4, 5, 12, 1, pmc_226)), (227, (5, 6, 12, 0, pmc_227)), (228, (3, 4, 12, 0, pmc_228)), (229, (3, 14, 12, 0, pmc_229)), (230, (5, 8, 12, 2, pmc_230)), (231, (5, 6, 12, 2, pmc_231)), (232, (6, 10, 12, 2, pmc_232)), (233, (4, 23, 12, 2, pmc_233)), (234, (4, 5, 12, 2, pmc_234)), (235, (3, 11, 12, 2, pmc_235)), (236, (5, 5, 12, 2, pmc_236)), (237, (2, 3, 12, 0, pmc_237)), (238, (1, 7, 12, 4, pmc_238)), (239, (1, 1, 12, 1, pmc_239))], [(240, (1, 1, 12, 0, pmc_240)), (241, (1, 1, 12, 1, pmc_241)), (242, (1, 1, 12, 1, pmc_242)), (243, (1, 3, 12, 4, pmc_243)), (244, (2, 2, 12, 1, pmc_244)), (245, (2, 2, 12, 4, pmc_245)), (246, (2, 2, 12, 4, pmc_246)), (247, (2, 3, 12, 1, pmc_247)), (248, (2, 3, 12, 4, pmc_248)), (249, (2, 3, 12, 4, pmc_249)), (250, (2, 3, 12, 4, pmc_250)), (251, (2, 2, 12, 4, pmc_251)), (252, (2, 4, 12, 4, pmc_252)), (253, (1, 3, 12, 0, pmc_253)), (254, (2, 2, 12, 1, pmc_254)), (255, (3, 3, 12, 4, pmc_255))], [(256, (2, 3, 12, 1, pmc_256)), (257, (2, 2, 12, 4, pmc_257)), (258, (2, 3, 12, 4, pmc_258)), (259, (5, 5, 12, 0, pmc_259)), (260, (3, 7, 12, 4, pmc_260)), (261, (5, 9, 12, 4, pmc_261)), (262, (3, 3, 12, 1, pmc_262)), (263, (3, 3, 12, 0, pmc_263)), (264, (2, 5, 12, 0, pmc_264)), (265, (3, 3, 12, 0, pmc_265)), (266, (4, 5, 12, 0, pmc_266)), (267, (3, 3, 12, 0, pmc_267)), (268, (3, 3, 12, 2, pmc_268)), (269, (1, 1, 12, 1, pmc_269)), (270, (3, 8, 12, 2, pmc_270)), (271, (2, 8, 12, 0, pmc_271))], [(272, (6, 9, 12, 0, pmc_272)), (273, (4, 4, 12, 0, pmc_273)), (274, (3, 3, 12, 2, pmc_274)), (275, (2, 3, 12, 1, pmc_275)), (276, (2, 4, 12, 0, pmc_276)), (277, (2, 3, 12, 0, pmc_277)), (278, (1, 1, 12, 1, pmc_278)), (279, (1, 3, 12, 4, pmc_279)), (280, (3, 3, 12, 0, pmc_280)), (281, (2, 2, 12, 0, pmc_281)), (282, (4, 5, 12, 1, pmc_282)), (283, (3, 5, 12, 0, pmc_283)), (284, (3, 3, 12, 2, pmc_284)), (285, (3, 6, 12, 1, pmc_285)), (286, (2, 17, 12, 2, pmc_286)), (287, (5, 5, 12, 1, pmc_287))], [(288, (4, 5, 12, 2, pmc_288)), (289, (3, 4, 12, 2, pmc_289)), (290, (3, 3, 12, 2, pmc_290)), (291, (3, 3, 12, 2, pmc_291)), (292, (5, 8, 12, 2, pmc_292)), (293, (5, 13, 12, 2, pmc_293)), (294, (5, 5, 12, 2, pmc_294)), (295, (3, 6, 12, 1, pmc_295)), (296, (2, 7, 12, 4, pmc_296)), (297, (1, 2, 12, 0, pmc_297)), (298, (1, 3, 12, 0, pmc_298)), (299, (2, 5, 12, 2, pmc_299)), (300, (4, 5, 12, 0, pmc_300)), (301, (3, 9, 12, 0, pmc_301)), (302, (2, 2, 12, 0, pmc_302)), (303, (4, 10, 12, 2, pmc_303))], [(304, (2, 5, 12, 0, pmc_304)), (305, (2, 9, 12, 0, pmc_305)), (306, (3, 4, 12, 1, pmc_306)), (307, (4, 5, 12, 4, pmc_307)), (308, (2, 4, 12, 0, pmc_308)), (309, (1, 8, 13, 1, pmc_309)), (310, (6, 7, 13, 0, pmc_310)), (311, (6, 7, 13, 0, pmc_311)), (312, (6, 7, 13, 0, pmc_312)), (313, (5, 6, 13, 0, pmc_313)), (314, (6, 7, 13, 0, pmc_314)), (315, (6, 7, 13, 0, pmc_315)), (316, (5, 6, 13, 0, pmc_316)), (317, (6, 7, 13, 0, pmc_317)), (318, (4, 5, 13, 0, pmc_318)), (319, (4, 5, 13, 0, pmc_319))], [(320, (3, 4, 13, 0, pmc_320)), (321, (5, 6, 13, 0, pmc_321)), (322, (6, 7, 13, 0, pmc_322)), (323, (5, 6, 13, 0, pmc_323)), (324, (2, 4, 14, 4, pmc_324)), (325, (2, 3, 14, 3, pmc_325)), (326, (1, 1, 15, 0, pmc_326)), (327, (2, 2, 15, 0, pmc_327)), (328, (2, 4, 16, 0, pmc_328)), (329, (2, 2, 17, 0, pmc_329)), (330, (3, 3, 17, 0, pmc_330)), (331, (1, 1, 17, 1, pmc_331)), (332, (1, 1, 17, 0, pmc_332)), (333, (1, 1, 17, 6, pmc_333)), (334, (3, 3, 17, 4, pmc_334)), (335, (2, 2, 17, 5, pmc_335))], [(336, (2, 2, 17, 4, pmc_336)), (337, (4, 4, 18, 0, pmc_337)), (338, (1, 1, 18, 1, pmc_338)), (339, (4, 6, 18, 0, pmc_339)), (340, (2, 2, 18, 5, pmc_340))]]
noncomputable def pm_ent (m : Nat) : Option pm_M := pm_get pm_mt m
def pm_lk0 : pm_T pm_K := [[(3, (12, 0, 0, 0)), (9, (0, 0, 0, 3)), (15, (0, 0, 1, 3))], [(18, (1, 2, 3, 0))]]
def pm_lk1 : pm_T pm_K := [[(1, (12, 0, 0, 0)), (7, (0, 1, 0, 2)), (13, (0, 1, 1, 2))], [(16, (12, 4, 0, 0)), (22, (2, 7, 2, 0)), (26, (1, 6, 3, 1)), (30, (2, 328, 2, 0))]]
def pm_lk2 : pm_T pm_K := [[(3, (12, 0, 0, 0)), (9, (0, 2, 0, 3)), (15, (12, 6, 0, 0))], [(21, (1, 19, 3, 2)), (25, (12, 1, 0, 0)), (31, (1, 21, 3, 2))], [(34, (1, 22, 3, 2)), (37, (1, 20, 4, 2)), (41, (1, 26, 3, 2)), (44, (12, 5, 0, 0))]]
def pm_lk3 : pm_T pm_K := [[(1, (12, 0, 0, 0)), (7, (6, 2, 1, 0)), (9, (3, 15, 1, 2)), (10, (0, 3, 0, 3))], [(16, (0, 3, 1, 3)), (19, (0, 3, 2, 0)), (23, (0, 3, 3, 1)), (27, (1, 25, 2, 2))]]
def pm_lk4 : pm_T pm_K := [[(3, (12, 0, 0, 0)), (11, (0, 4, 0, 3)), (15, (0, 4, 1, 3))], [(18, (0, 4, 2, 3)), (22, (0, 4, 3, 0)), (26, (1, 36, 1, 4)), (30, (12, 2, 0, 0))]]
def pm_lk5 : pm_T pm_K := [[(3, (12, 0, 0, 0)), (11, (0, 5, 3, 3)), (15, (0, 5, 4, 0))], [(19, (0, 5, 5, 0)), (22, (0, 5, 6, 0)), (25, (0, 5, 7, 0)), (28, (0, 5, 8, 0)), (31, (0, 5, 0, 3))], [(35, (0, 5, 1, 3)), (38, (0, 5, 2, 3)), (41, (1, 68, 1, 7)), (46, (1, 100, 1, 9))], [(51, (1, 101, 1, 9)), (54, (1, 45, 3, 5)), (58, (1, 111, 1, 9)), (62, (1, 107, 1, 9))], [(65, (1, 46, 3, 5)), (68, (10, 9, 0, 0)), (70, (1, 108, 2, 9)), (74, (1, 47, 3, 5)), (77, (1, 50, 3, 5))], [(80, (1, 56, 3, 5)), (83, (1, 109, 2, 9)), (87, (1, 69, 2, 7)), (91, (1, 70, 2, 7)), (95, (1, 110, 1, 9))], [(98, (1, 72, 3, 7)), (102, (10, 10, 0, 0)), (104, (1, 48, 2, 5)), (107, (1, 71, 3, 7)), (110, (1, 49, 2, 5))], [(114, (1, 51, 2, 5)), (118, (1, 54, 2, 5)), (121, (2, 55, 1, 0)), (125, (11, 3, 0, 0))], [(128, (1, 52, 3, 5)), (132, (1, 53, 1, 5)), (135, (10, 11, 0, 0))]]
def pm_lk6 : pm_T pm_K := [[(3, (12, 0, 0, 0)), (9, (0, 6, 0, 3)), (15, (0, 6, 1, 3))], [(18, (0, 6, 2, 3)), (22, (0, 6, 3, 3)), (25, (0, 6, 4, 3)), (28, (1, 63, 3, 6))]]
def pm_lk7 : pm_T pm_K := [[(1, (12, 0, 0, 0)), (7, (0, 7, 1, 0)), (13, (0, 7, 2, 3))], [(17, (0, 7, 3, 3)), (21, (0, 7, 4, 3)), (24, (0, 7, 5, 3)), (27, (0, 7, 6, 3)), (30, (0, 7, 0, 3))], [(33, (2, 325, 2, 0)), (39, (1, 75, 3, 7)), (43, (1, 76, 3, 7)), (47, (2, 78, 2, 0))], [(50, (2, 77, 3, 0))]]
def pm_lk8 : pm_T pm_K := [[(3, (12, 0, 0, 0)), (9, (0, 8, 0, 3)), (15, (0, 8, 1, 3))], [(18, (0, 8, 2, 3)), (21, (0, 8, 3, 3)), (24, (0, 8, 4, 3)), (27, (12, 6, 0, 0))], [(33, (1, 84, 2, 8)), (37, (1, 85, 2, 8)), (40, (1, 6, 3, 1)), (46, (1, 92, 2, 8))], [(49, (1, 95, 2, 8)), (53, (12, 3, 0, 0)), (58, (1, 88, 1, 8)), (61, (12, 2, 0, 0))], [(65, (2, 326, 1, 0)), (70, (1, 89, 2, 8)), (73, (2, 328, 2, 0)), (79, (1, 91, 4, 8))], [(83, (2, 327, 2, 0))]]
def pm_lk9 : pm_T pm_K := [[(3, (12, 0, 0, 0)), (11, (0, 9, 0, 3)), (15, (0, 9, 1, 0))], [(19, (0, 9, 2, 0)), (22, (0, 9, 3, 0)), (25, (0, 9, 4, 0)), (28, (0, 9, 5, 0)), (31, (9, 255, 0, 0))], [(33, (2, 121, 3, 0)), (37, (2, 102, 1, 0)), (41, (2, 103, 1, 0)), (44, (1, 104, 1, 9)), (47, (2, 105, 1, 0))], [(50, (1, 106, 1, 9)), (53, (10, 8, 0, 0)), (55, (1, 329, 2, 17)), (61, (1, 332, 1, 17))], [(64, (1, 335, 2, 17))]]
def pm_lk10 : pm_T pm_K := [[(3, (12, 0, 0, 0)), (9, (6, 2, 1, 0)), (11, (3, 15, 1, 2)), (12, (0, 10, 3, 3))], [(18, (0, 10, 4, 3)), (22, (0, 10, 5, 2)), (26, (0, 10, 0, 3)), (30, (0, 10, 1, 3))], [(33, (0, 10, 2, 3)), (37, (1, 25, 2, 2)), (41, (1, 19, 3, 2)), (45, (1, 18, 5, 2))], [(49, (1, 59, 2, 6)), (55, (1, 114, 4, 10)), (59, (9, 1103515245, 0, 0)), (61, (9, 12345, 0, 0)), (63, (9, 2147483648, 0, 0))], [(65, (1, 26, 3, 2)), (68, (1, 115, 4, 10)), (72, (1, 74, 4, 7)), (78, (2, 116, 1, 0))], [(82, (1, 16, 3, 2)), (86, (1, 60, 2, 6)), (89, (1, 64, 2, 6)), (92, (1, 2, 3, 0))], [(98, (1, 21, 3, 2)), (101, (1, 22, 3, 2)), (104, (12, 1, 0, 0)), (109, (1, 3, 3, 0))], [(112, (9, 65536, 0, 0)), (114, (9, 10, 0, 0)), (116, (12, 2, 0, 0))]]
def pm_lk11 : pm_T pm_K := [[(1, (12, 0, 0, 0)), (7, (6, 6, 5, 0)), (9, (3, 57, 1, 6)), (10, (0, 11, 0, 3))], [(16, (6, 0, 2, 0)), (18, (3, 0, 1, 0)), (19, (0, 11, 1, 3)), (23, (6, 2, 1, 0)), (25, (3, 15, 1, 2)), (26, (0, 11, 2, 3)), (30, (0, 11, 3, 3))], [(33, (0, 11, 4, 3)), (37, (0, 11, 5, 3)), (40, (0, 11, 6, 0)), (44, (6, 8, 5, 0)), (46, (3, 80, 1, 8)), (47, (0, 11, 7, 3))], [(51, (6, 1, 2, 0)), (53, (3, 5, 1, 1)), (54, (0, 11, 8, 3)), (58, (0, 11, 9, 3)), (61, (6, 9, 6, 0)), (63, (3, 96, 1, 9))], [(64, (0, 11, 10, 3)), (68, (6, 5, 9, 0)), (70, (10, 4, 0, 0)), (72, (10, 5, 0, 0)), (74, (11, 1, 0, 0)), (77, (3, 43, 4, 5))], [(80, (0, 11, 11, 3)), (84, (10, 6, 0, 0)), (86, (10, 7, 0, 0)), (88, (11, 2, 0, 0)), (91, (0, 11, 12, 3)), (94, (6, 7, 7, 0))], [(96, (3, 67, 2, 7)), (99, (0, 11, 13, 3)), (103, (0, 11, 14, 3)), (107, (0, 11, 15, 3)), (110, (0, 11, 16, 3))], [(113, (6, 10, 6, 0)), (115, (3, 112, 4, 10)), (118, (0, 11, 17, 3)), (122, (6, 4, 4, 0)), (124, (3, 35, 1, 4)), (125, (0, 11, 18, 3))], [(129, (6, 3, 4, 0)), (131, (0, 11, 19, 3)), (135, (3, 30, 1, 3)), (136, (2, 120, 1, 0)), (140, (2, 122, 1, 0)), (143, (2, 121, 3, 0))], [(147, (1, 58, 6, 6)), (151, (1, 124, 2, 11)), (154, (2, 125, 1, 0)), (157, (1, 16, 3, 2))], [(161, (1, 17, 3, 2)), (164, (1, 18, 5, 2)), (168, (1, 1, 5, 0)), (171, (1, 19, 3, 2)), (175, (1, 20, 4, 2))], [(179, (2, 131, 2, 0)), (182, (13, 0, 0, 0)), (185, (1, 63, 3, 6)), (188, (1, 170, 5, 11))], [(192, (1, 23, 4, 2)), (195, (1, 26, 3, 2)), (198, (1, 24, 5, 2)), (201, (2, 137, 1, 0)), (204, (1, 138, 3, 11)), (207, (1, 93, 2, 8))], [(210, (1, 83, 2, 8)), (214, (1, 9, 2, 1)), (218, (1, 14, 2, 1)), (222, (1, 81, 1, 8))], [(225, (1, 59, 2, 6)), (228, (1, 60, 2, 6)), (232, (1, 82, 4, 8)), (235, (2, 174, 1, 0)), (238, (2, 175, 1, 0))], [(241, (1, 132, 4, 11)), (245, (2, 176, 1, 0)), (248, (1, 8, 1, 1)), (252, (1, 62, 2, 6)), (255, (1, 61, 2, 6))], [(258, (1, 135, 4, 11)), (261, (1, 133, 4, 11)), (265, (1, 65, 2, 6)), (268, (1, 84, 2, 8)), (269, (1, 94, 4, 8))], [(273, (1, 6, 3, 1)), (276, (9, 18446744073709551615, 0, 0)), (278, (1, 86, 1, 8)), (282, (1, 87, 2, 8)), (285, (1, 159, 3, 11))], [(288, (1, 64, 2, 6)), (291, (1, 2, 3, 0)), (295, (1, 10, 1, 1)), (298, (1, 11, 2, 1)), (301, (1, 12, 2, 1))], [(304, (1, 97, 2, 9)), (308, (1, 98, 1, 9)), (311, (2, 142, 1, 0)), (314, (1, 99, 1, 9)), (317, (1, 143, 3, 11))], [(321, (1, 44, 3, 5)), (325, (1, 73, 2, 7)), (328, (1, 113, 4, 10)), (332, (1, 117, 1, 10))], [(336, (1, 146, 3, 11)), (340, (1, 147, 2, 11)), (343, (12, 3, 0, 0)), (348, (12, 1, 0, 0)), (351, (1, 150, 3, 11))], [(354, (1, 36, 1, 4)), (357, (1, 37, 4, 4)), (360, (1, 38, 2, 4)), (364, (1, 39, 2, 4)), (367, (1, 155, 2, 11))], [(371, (1, 156, 4, 11)), (375, (1, 183, 3, 11)), (379, (1, 185, 2, 11)), (382, (1, 186, 3, 11))], [(386, (1, 79, 3, 7)), (389, (1, 157, 2, 11)), (392, (1, 158, 2, 11)), (395, (1, 69, 2, 7)), (398, (1, 27, 2, 2))], [(401, (1, 28, 2, 2)), (404, (1, 75, 3, 7)), (408, (8, 99999, 0, 0)), (409, (1, 188, 3, 11)), (413, (1, 189, 3, 11))], [(416, (1, 191, 3, 11)), (419, (1, 194, 5, 11)), (423, (1, 190, 3, 11)), (426, (1, 192, 3, 11)), (429, (9, 10, 0, 0)), (431, (1, 162, 3, 11))], [(434, (1, 90, 3, 8)), (438, (9, 100, 0, 0)), (440, (1, 13, 3, 1)), (444, (12, 2, 0, 0)), (447, (1, 196, 5, 11))], [(451, (1, 166, 2, 11)), (454, (1, 4, 3, 0)), (457, (1, 40, 1, 4)), (458, (1, 31, 4, 3)), (462, (1, 32, 1, 3))], [(465, (1, 33, 1, 3)), (467, (1, 34, 3, 3)), (471, (1, 41, 2, 4)), (474, (1, 29, 1, 2)), (477, (1, 42, 1, 4))], [(480, (1, 66, 1, 6))]]
def pm_lk12 : pm_T pm_K := [[(1, (0, 12, 0, 0)), (7, (1, 199, 2, 12)), (11, (0, 12, 2, 0)), (14, (0, 12, 1, 3))], [(18, (12, 0, 0, 0)), (24, (0, 12, 4, 3)), (27, (0, 12, 5, 3)), (30, (0, 12, 6, 3))], [(34, (9, 418216, 0, 0)), (36, (9, 812503, 0, 0)), (38, (9, 974156, 0, 0)), (40, (9, 28930245, 0, 0)), (42, (9, 1176170, 0, 0)), (44, (9, 1891, 0, 0)), (46, (9, 573, 0, 0))], [(48, (9, 19741, 0, 0)), (50, (9, 43531911, 0, 0)), (52, (9, 407043, 0, 0)), (54, (9, 1166652, 0, 0)), (56, (9, 11873910, 0, 0)), (58, (9, 9636, 0, 0)), (60, (9, 103204, 0, 0)), (62, (9, 25143802, 0, 0))], [(64, (9, 38396496, 0, 0)), (66, (9, 227314, 0, 0)), (68, (9, 31543, 0, 0)), (70, (9, 1014841, 0, 0)), (72, (9, 329128, 0, 0)), (74, (9, 755, 0, 0)), (76, (9, 1396986782, 0, 0)), (78, (9, 679747, 0, 0))], [(80, (9, 223811164, 0, 0)), (82, (9, 1335017851, 0, 0)), (84, (9, 4537388, 0, 0)), (86, (9, 15063274, 0, 0)), (88, (9, 1010834209, 0, 0)), (90, (0, 12, 9, 3)), (93, (0, 12, 10, 3))], [(97, (0, 12, 11, 3)), (100, (0, 12, 12, 3)), (103, (0, 12, 13, 3)), (106, (0, 12, 14, 3)), (109, (0, 12, 16, 3))], [(112, (0, 12, 17, 3)), (115, (0, 12, 18, 3)), (118, (0, 12, 19, 3)), (121, (0, 12, 20, 3)), (124, (0, 12, 21, 3)), (127, (0, 12, 22, 3))], [(130, (0, 12, 23, 3)), (133, (0, 12, 30, 3)), (136, (0, 12, 31, 3)), (139, (0, 12, 33, 3)), (142, (0, 12, 34, 3))], [(145, (0, 12, 35, 3)), (148, (0, 12, 36, 3)), (151, (0, 12, 37, 3)), (154, (0, 12, 38, 3)), (157, (0, 12, 39, 3))], [(160, (0, 12, 40, 3)), (163, (0, 12, 42, 3)), (166, (0, 12, 43, 3)), (169, (0, 12, 44, 3)), (172, (0, 12, 46, 3)), (175, (0, 12, 47, 3))], [(178, (0, 12, 48, 3)), (181, (0, 12, 49, 3)), (184, (0, 12, 50, 3)), (187, (0, 12, 51, 3)), (190, (0, 12, 52, 3))], [(193, (0, 12, 53, 3)), (196, (0, 12, 54, 3)), (199, (0, 12, 55, 3)), (202, (0, 12, 56, 3)), (205, (0, 12, 57, 3))], [(208, (0, 12, 15, 0)), (211, (2, 239, 1, 0)), (215, (0, 12, 3, 0)), (218, (9, 37, 0, 0)), (220, (2, 240, 1, 0))], [(224, (2, 241, 1, 0)), (227, (9, 10, 0, 0)), (229, (9, 48, 0, 0)), (231, (2, 242, 1, 0)), (234, (0, 12, 7, 0)), (237, (0, 12, 8, 0))], [(240, (1, 254, 2, 12)), (243, (1, 245, 2, 12)), (247, (1, 244, 2, 12)), (250, (1, 247, 2, 12)), (253, (2, 202, 3, 0))], [(257, (1, 204, 2, 12)), (260, (2, 205, 1, 0)), (263, (1, 211, 3, 12)), (267, (1, 210, 3, 12)), (270, (2, 213, 2, 0))], [(274, (1, 214, 4, 12)), (277, (1, 215, 4, 12)), (281, (0, 12, 24, 2)), (285, (0, 12, 25, 2))], [(288, (2, 223, 2, 0)), (292, (0, 12, 26, 2)), (295, (0, 12, 27, 2)), (298, (0, 12, 28, 2)), (301, (0, 12, 29, 2))], [(304, (1, 219, 1, 12)), (307, (1, 220, 3, 12)), (311, (1, 221, 1, 12)), (315, (2, 217, 1, 0)), (318, (1, 218, 4, 12))], [(321, (1, 222, 2, 12)), (325, (1, 227, 5, 12)), (329, (1, 226, 4, 12)), (332, (1, 232, 6, 12))], [(336, (9, 14, 0, 0)), (338, (9, 18446744073709551615, 0, 0)), (340, (0, 12, 32, 0)), (343, (1, 238, 1, 12)), (346, (0, 12, 45, 1)), (350, (1, 243, 1, 12))], [(353, (1, 258, 2, 12)), (356, (1, 246, 2, 12)), (359, (1, 248, 2, 12)), (362, (1, 255, 3, 12)), (366, (1, 257, 2, 12))], [(369, (1, 249, 2, 12)), (372, (1, 250, 2, 12)), (375, (1, 256, 2, 12)), (378, (1, 251, 2, 12)), (381, (1, 252, 2, 12))], [(384, (1, 253, 1, 12)), (388, (1, 264, 2, 12)), (391, (2, 265, 3, 0)), (394, (1, 263, 3, 12)), (397, (9, 1103515245, 0, 0)), (399, (9, 12345, 0, 0))], [(401, (9, 2147483648, 0, 0)), (403, (9, 65536, 0, 0)), (405, (1, 261, 5, 12)), (409, (1, 262, 3, 12)), (412, (1, 266, 4, 12)), (415, (1, 260, 3, 12))], [(418, (1, 267, 3, 12)), (421, (2, 269, 1, 0)), (424, (1, 270, 3, 12)), (428, (0, 12, 41, 0)), (431, (1, 275, 2, 12))], [(435, (2, 278, 1, 0)), (438, (1, 279, 1, 12)), (441, (9, 11, 0, 0)), (443, (1, 283, 3, 12)), (446, (1, 281, 2, 12))], [(449, (1, 282, 4, 12)), (452, (1, 285, 3, 12)), (455, (8, 99999, 0, 0)), (456, (1, 289, 3, 12)), (459, (1, 290, 3, 12)), (462, (1, 291, 3, 12))], [(465, (1, 293, 5, 12)), (469, (9, 9, 0, 0)), (471, (2, 297, 1, 0)), (475, (2, 298, 1, 0)), (478, (2, 299, 2, 0))], [(482, (1, 295, 3, 12)), (485, (1, 296, 2, 12)), (488, (9, 100, 0, 0)), (490, (1, 302, 2, 12)), (493, (1, 305, 2, 12))], [(496, (1, 307, 4, 12))]]
def pm_lk13 : pm_T pm_K := [[(7, (1, 169, 5, 11)), (8, (6, 11, 20, 0)), (13, (13, 0, 0, 0)), (15, (1, 171, 5, 11))], [(19, (1, 172, 5, 11)), (22, (1, 173, 4, 11)), (26, (1, 177, 5, 11)), (30, (1, 178, 5, 11))], [(33, (1, 179, 4, 11)), (36, (1, 180, 5, 11)), (39, (1, 181, 3, 11)), (43, (1, 182, 3, 11)), (47, (1, 184, 2, 11))], [(51, (1, 187, 4, 11)), (54, (1, 193, 5, 11)), (57, (1, 195, 4, 11)), (60, (3, 118, 1, 11)), (61, (6, 12, 58, 0)), (63, (3, 200, 1, 12))], [(64, (1, 119, 6, 11)), (68, (1, 201, 6, 12)), (69, (1, 123, 5, 11)), (73, (1, 203, 5, 12)), (74, (1, 126, 5, 11)), (77, (1, 206, 5, 12)), (78, (1, 127, 2, 11))], [(82, (1, 207, 2, 12)), (83, (1, 128, 5, 11)), (86, (1, 208, 5, 12)), (87, (1, 129, 3, 11)), (91, (1, 209, 3, 12)), (92, (14, 310, 6, 0))], [(97, (1, 212, 5, 12)), (98, (1, 197, 1, 12)), (102, (14, 311, 6, 0)), (104, (1, 216, 5, 12)), (105, (14, 312, 6, 0)), (107, (1, 224, 5, 12)), (108, (14, 313, 5, 0)), (111, (1, 225, 4, 12))], [(112, (1, 130, 3, 11)), (115, (1, 228, 3, 12)), (116, (1, 134, 3, 11)), (119, (1, 229, 3, 12)), (120, (14, 314, 6, 0)), (123, (1, 230, 5, 12)), (124, (14, 315, 6, 0)), (126, (1, 231, 5, 12)), (127, (1, 136, 4, 11))], [(130, (1, 233, 4, 12)), (131, (14, 316, 5, 0)), (133, (1, 234, 4, 12)), (134, (1, 139, 3, 11)), (137, (1, 235, 3, 12)), (138, (14, 317, 6, 0)), (140, (1, 236, 5, 12)), (141, (9, 4294967295, 0, 0)), (143, (1, 140, 4, 11))], [(147, (1, 198, 4, 12)), (148, (1, 141, 2, 11)), (152, (1, 237, 2, 12)), (153, (1, 144, 5, 11)), (156, (1, 259, 5, 12)), (157, (1, 145, 3, 11))], [(160, (1, 268, 3, 12)), (161, (1, 148, 2, 11)), (164, (1, 271, 2, 12)), (165, (1, 149, 6, 11)), (169, (1, 272, 6, 12)), (170, (1, 151, 4, 11)), (174, (1, 273, 4, 12)), (175, (14, 318, 4, 0))], [(178, (1, 274, 3, 12)), (179, (1, 152, 2, 11)), (182, (1, 276, 2, 12)), (183, (1, 153, 2, 11)), (186, (1, 277, 2, 12)), (187, (1, 154, 3, 11)), (190, (1, 280, 3, 12)), (191, (14, 319, 4, 0))], [(194, (1, 284, 3, 12)), (195, (14, 320, 3, 0)), (198, (1, 286, 2, 12)), (199, (1, 160, 5, 11)), (202, (1, 287, 5, 12)), (203, (14, 321, 5, 0)), (205, (1, 288, 4, 12)), (206, (14, 322, 6, 0))], [(208, (1, 292, 5, 12)), (209, (1, 161, 5, 11)), (212, (1, 294, 5, 12)), (213, (1, 163, 4, 11)), (217, (1, 300, 4, 12)), (218, (1, 164, 3, 11)), (221, (1, 301, 3, 12)), (222, (14, 323, 5, 0))], [(224, (1, 303, 4, 12)), (225, (1, 165, 2, 11)), (228, (1, 304, 2, 12)), (229, (1, 167, 3, 11)), (233, (1, 306, 3, 12)), (234, (1, 168, 2, 11)), (237, (1, 308, 2, 12))]]
def pm_lk14 : pm_T pm_K := [[], [], [], [], [], [], [], [], [], [(150, (12, 5, 0, 0))], [], [], [], [], [], [], [], [], [], [(304, (12, 2, 0, 0))]]
def pm_lk15 : pm_T pm_K := [[], [], [], [], [], [], [], [], [], [], [], [], [], [], [], [], [(265, (8, 1431655765, 0, 0)), (266, (8, 858993459, 0, 0)), (267, (8, 252645135, 0, 0))]]
def pm_lk16 : pm_T pm_K := []
def pm_lk17 : pm_T pm_K := [[], [], [], [], [], [], [], [], [], [], [], [], [], [], [], [], [], [], [], [], [(335, (1, 333, 1, 17))], [], [], [], [], [], [], [], [], [], [(492, (1, 331, 1, 17)), (495, (2, 340, 2, 0))], [(505, (1, 332, 1, 17))], [], [], [], [], [], [], [], [(633, (1, 330, 3, 17)), (637, (2, 337, 4, 0))]]
def pm_lk18 : pm_T pm_K := [[(9, (2, 336, 2, 0))], [], [(38, (12, 2, 0, 0))], [], [], [(88, (2, 338, 1, 0)), (92, (12, 1, 0, 0)), (95, (2, 339, 4, 0))]]
def pm_lks : List (pm_T pm_K) := [pm_lk0, pm_lk1, pm_lk2, pm_lk3, pm_lk4, pm_lk5, pm_lk6, pm_lk7, pm_lk8, pm_lk9, pm_lk10, pm_lk11, pm_lk12, pm_lk13, pm_lk14, pm_lk15, pm_lk16, pm_lk17, pm_lk18]
noncomputable def pm_lnk (own : Nat) : pm_T pm_K := (pm_nth pm_lks own).getD []
/-- fields of a new object, by class -/
def pm_new : List (Nat × List Value) := [(0, [.null, .null]), (0, [.long 0, .long 0]), (0, [.null]), (0, [.null, .null, .int 0, .int 0]), (0, [.null, .null, .null, .int 0]), (0, [.null, .null, .null, .null, .int 0, .int 0, .int 0, .int 0, .int 0]), (0, [.null, .null, .null, .null, .null]), (0, [.null, .int 0, .null, .null, .null, .null, .null]), (0, [.null, .null, .null, .null, .null]), (0, [.null, .int 0, .int 0, .int 0, .int 0, .int 0]), (0, [.null, .null, .null, .null, .null, .long 0]), (0, [.null, .null, .null, .null, .null, .null, .int 0, .null, .null, .null, .null, .null, .null, .null, .null, .null, .null, .null, .null, .null]), (0, [.int 0, .null, .int 0, .int 0, .null, .null, .null, .int 0, .int 0, .null, .null, .null, .null, .null, .null, .int 0, .null, .null, .null, .null, .null, .null, .null, .null, .long 0, .long 0, .long 0, .long 0, .long 0, .long 0, .null, .null, .int 0, .null, .null, .null, .null, .null, .null, .null, .null, .int 0, .null, .null, .null, .int 0, .null, .null, .null, .null, .null, .null, .null, .null, .null, .null, .null, .null])]
/-- what is there at the start, with the script xs in place 0 -/
def pm_ext (xs : List Int32) : List (Nat × List Value) := (0, xs.map .int) :: ((0, [.int (-1), .int (-1), .int (-2), .int (-2)]) :: (0, [.int (-2), .int 11, .int 11, .int 10]) :: (0, [.int 0, .int 1, .int 1, .int 2, .int 2, .int 3, .int 3, .int 4, .int 0, .int 0]) :: (List.replicate 12 (99, []) ++ pm_new))
end
section
/-! what the words say of classes, links and methods (positions printed by wip/tool/words.py, checked by the kernel) -/
def pm_nms : List String := [RX0, RX1, RX2, RX3, RX4, RX5, RX6, RX7, RX8, RX9, RX10, RX11, RX12, "RiverWageLaw", "java/util/Arrays", "java/lang/Integer", "java/lang/Long", "java/lang/String", "java/lang/StringLatin1"]
def pm_nm (own : Nat) : String := pm_nms.getD own ""
def pm_W0 : List Cond := lw_tbl.filter goodWord
theorem pm_W0_of {w : Cond} (h : w ∈ tables_1) (hg : goodWord w = true) : w ∈ pm_W0 := List.mem_filter.mpr ⟨List.mem_append_right _ h, hg⟩
theorem pm_W0_at (i : Nat) {w : Cond} (h : tables_1[i]? = some w) (hg : goodWord w = true) : w ∈ pm_W0 := pm_W0_of (List.mem_of_getElem? h) hg
theorem pm_W0_ps {ws : List Cond} (ps : List Nat) (hp : ws = ps.filterMap (fun i => tables_1[i]?)) (h : ws.all goodWord = true) : ∀ w ∈ ws, w ∈ pm_W0 := by
  intro w hw
  have h1 := List.all_eq_true.mp h w hw
  rw [hp] at hw
  obtain ⟨i, -, hi⟩ := List.mem_filterMap.mp hw
  exact pm_W0_at i hi h1
/-- a class: its fields lie as the tables have them -/
def pm_cf (C : String) (T : u_T) (N : Nat) : Prop := (∀ w ∈ u_ws C T N, w ∈ pm_W0) ∧ (∃ ty : Nat → FieldType, ∀ k, k < N → parseFieldDescriptor (T k).2.2.1 = some (ty k)) ∧ (∀ a, a < N → ∀ b, b < N → a ≠ b → (T a).2.1 ≠ (T b).2.1) ∧ Cond.instantiable C N ∈ pm_W0 ∧ Cond.initialized C ∈ pm_W0
theorem pm_cf0 : pm_cf RX0 TX0 2 := ⟨pm_W0_ps [68, 70] (by decide +kernel) (by decide +kernel), ⟨tyX0, tyX0_ok⟩, nmX0, pm_W0_at 61 (by decide +kernel) (by decide +kernel), pm_W0_at 3 (by decide +kernel) (by decide +kernel)⟩
theorem pm_cf1 : pm_cf RX1 TX1 2 := ⟨pm_W0_ps [116, 118] (by decide +kernel) (by decide +kernel), ⟨tyX1, tyX1_ok⟩, nmX1, pm_W0_at 109 (by decide +kernel) (by decide +kernel), pm_W0_at 7 (by decide +kernel) (by decide +kernel)⟩
theorem pm_cf2 : pm_cf RX2 TX2 1 := ⟨pm_W0_ps [83] (by decide +kernel) (by decide +kernel), ⟨tyX2, tyX2_ok⟩, nmX2, pm_W0_at 74 (by decide +kernel) (by decide +kernel), pm_W0_at 4 (by decide +kernel) (by decide +kernel)⟩
theorem pm_cf3 : pm_cf RX3 TX3 4 := ⟨pm_W0_ps [278, 280, 282, 284] (by decide +kernel) (by decide +kernel), ⟨tyX3, tyX3_ok⟩, nmX3, pm_W0_at 267 (by decide +kernel) (by decide +kernel), pm_W0_at 13 (by decide +kernel) (by decide +kernel)⟩
theorem pm_cf4 : pm_cf RX4 TX4 4 := ⟨pm_W0_ps [256, 258, 260, 262] (by decide +kernel) (by decide +kernel), ⟨tyX4, tyX4_ok⟩, nmX4, pm_W0_at 247 (by decide +kernel) (by decide +kernel), pm_W0_at 12 (by decide +kernel) (by decide +kernel)⟩
theorem pm_cf5 : pm_cf RX5 TX5 9 := ⟨pm_W0_ps [166, 168, 170, 172, 174, 176, 178, 180, 182] (by decide +kernel) (by decide +kernel), ⟨tyX5, tyX5_ok⟩, nmX5, pm_W0_at 148 (by decide +kernel) (by decide +kernel), pm_W0_at 9 (by decide +kernel) (by decide +kernel)⟩
theorem pm_cf6 : pm_cf RX6 TX6 5 := ⟨pm_W0_ps [47, 49, 51, 53, 55] (by decide +kernel) (by decide +kernel), ⟨tyX6, tyX6_ok⟩, nmX6, pm_W0_at 37 (by decide +kernel) (by decide +kernel), pm_W0_at 2 (by decide +kernel) (by decide +kernel)⟩
theorem pm_cf7 : pm_cf RX7 TX7 7 := ⟨pm_W0_ps [203, 205, 207, 209, 211, 213, 215] (by decide +kernel) (by decide +kernel), ⟨tyX7, tyX7_ok⟩, nmX7, pm_W0_at 191 (by decide +kernel) (by decide +kernel), pm_W0_at 10 (by decide +kernel) (by decide +kernel)⟩
theorem pm_cf8 : pm_cf RX8 TX8 5 := ⟨pm_W0_ps [97, 99, 101, 103, 105] (by decide +kernel) (by decide +kernel), ⟨tyX8, tyX8_ok⟩, nmX8, pm_W0_at 87 (by decide +kernel) (by decide +kernel), pm_W0_at 6 (by decide +kernel) (by decide +kernel)⟩
theorem pm_cf9 : pm_cf RX9 TX9 6 := ⟨pm_W0_ps [133, 135, 137, 139, 141, 143] (by decide +kernel) (by decide +kernel), ⟨tyX9, tyX9_ok⟩, nmX9, pm_W0_at 122 (by decide +kernel) (by decide +kernel), pm_W0_at 8 (by decide +kernel) (by decide +kernel)⟩
theorem pm_cf10 : pm_cf RX10 TX10 6 := ⟨pm_W0_ps [233, 235, 237, 239, 241, 243] (by decide +kernel) (by decide +kernel), ⟨tyX10, tyX10_ok⟩, nmX10, pm_W0_at 220 (by decide +kernel) (by decide +kernel), pm_W0_at 11 (by decide +kernel) (by decide +kernel)⟩
theorem pm_cf11 : pm_cf RX11 TX11 20 := ⟨pm_W0_ps [307, 309, 311, 313, 315, 317, 319, 321, 323, 325, 327, 329, 331, 333, 335, 337, 339, 341, 343, 345] (by decide +kernel) (by decide +kernel), ⟨tyX11, tyX11_ok⟩, nmX11, pm_W0_at 29 (by decide +kernel) (by decide +kernel), pm_W0_at 1 (by decide +kernel) (by decide +kernel)⟩
theorem pm_cf12 : pm_cf RX12 TX12 58 := ⟨pm_W0_ps [1467, 1469, 1471, 1473, 1475, 1477, 1479, 1481, 1483, 1485, 1487, 1489, 1491, 1493, 1495, 1497, 1499, 1501, 1503, 1505, 1507, 1509, 1511, 1513, 1515, 1517, 1519, 1521, 1523, 1525, 1527, 1529, 1531, 1533, 1535, 1537, 1539, 1541, 1543, 1545, 1547, 1549, 1551, 1553, 1555, 1557, 1559, 1561, 1563, 1565, 1567, 1569, 1571, 1573, 1575, 1577, 1579, 1581] (by decide +kernel) (by decide +kernel), ⟨tyX12, tyX12_ok⟩, nmX12, pm_W0_at 1374 (by decide +kernel) (by decide +kernel), pm_W0_at 14 (by decide +kernel) (by decide +kernel)⟩
theorem pm_cls {ci : Nat} {C : String} {T : u_T} {N : Nat} (h : vwCl[ci]? = some (C, T, N)) : pm_cf C T N := by
  have key : ∀ q ∈ vwCl, pm_cf q.1 q.2.1 q.2.2 := by
    intro q hq
    simp only [vwCl, List.mem_cons, List.not_mem_nil, or_false] at hq
    rcases hq with rfl | rfl | rfl | rfl | rfl | rfl | rfl | rfl | rfl | rfl | rfl | rfl | rfl
    · exact pm_cf0
    · exact pm_cf1
    · exact pm_cf2
    · exact pm_cf3
    · exact pm_cf4
    · exact pm_cf5
    · exact pm_cf6
    · exact pm_cf7
    · exact pm_cf8
    · exact pm_cf9
    · exact pm_cf10
    · exact pm_cf11
    · exact pm_cf12
  exact key _ (List.mem_of_getElem? h)
/-- a method: its name, the place of the word that has its bytes, what it answers -/
abbrev pm_Hd : Type := MethodName × Nat × Option FieldType
/-- the bytes that the word at this place of tables_1 names; 99999: the law's -/
def pm_byt (p : Nat) : ByteArray := cond (Nat.beq p 99999) code (match tables_1[p]? with
  | some (.code _ b _ _) => b
  | some (.codeWith _ b _ _ _) => b
  | _ => ⟨#[]⟩)
set_option maxRecDepth 100000 in
def pm_hds : pm_T pm_Hd := [[(0, (⟨"RiverWage$Floors", "<init>", "()V"⟩, 64, none)), (1, (⟨"RiverWage$Floors", "putFrom", "(IIII)V"⟩, 407, none)), (2, (⟨"RiverWage$Floors", "floorOf", "(II)I"⟩, 891, (some .int))), (3, (⟨"RiverWage$Floors", "tradeOf", "(II)I"⟩, 898, (some .int))), (4, (⟨"RiverWage$Floors", "growthOf", "(II)I"⟩, 1082, (some .int))), (5, (⟨"RiverWage$Fraction", "<init>", "()V"⟩, 112, none)), (6, (⟨"RiverWage$Fraction", "put", "(JJ)V"⟩, 478, none)), (7, (⟨"RiverWage$Fraction", "commonOf", "(JJ)J"⟩, 484, (some .long))), (8, (⟨"RiverWage$Fraction", "sign", "()I"⟩, 488, (some .int))), (9, (⟨"RiverWage$Fraction", "pick", "(I)J"⟩, 562, (some .long))), (10, (⟨"RiverWage$Fraction", "dropSign", "()V"⟩, 571, none)), (11, (⟨"RiverWage$Fraction", "isBelow", "(LRiverWage$Fraction;)Z"⟩, 575, (some .boolean))), (12, (⟨"RiverWage$Fraction", "copyOf", "(LRiverWage$Fraction;)V"⟩, 579, none)), (13, (⟨"RiverWage$Fraction", "isAtLeast", "(JJ)Z"⟩, 1066, (some .boolean))), (14, (⟨"RiverWage$Fraction", "subtract", "(LRiverWage$Fraction;)V"⟩, 1226, none)), (15, (⟨"RiverWage$Ledger", "<init>", "()V"⟩, 77, none))], [(16, (⟨"RiverWage$Ledger", "shutDown", "(II)V"⟩, 383, none)), (17, (⟨"RiverWage$Ledger", "silence", "(II)V"⟩, 387, none)), (18, (⟨"RiverWage$Ledger", "tell", "(IIII)V"⟩, 391, none)), (19, (⟨"RiverWage$Ledger", "isSilent", "(II)Z"⟩, 415, (some .boolean))), (20, (⟨"RiverWage$Ledger", "handsOf", "(III)I"⟩, 419, (some .int))), (21, (⟨"RiverWage$Ledger", "wholeOf", "(II)I"⟩, 423, (some .int))), (22, (⟨"RiverWage$Ledger", "halfOf", "(II)I"⟩, 430, (some .int))), (23, (⟨"RiverWage$Ledger", "tellsBoth", "(III)Z"⟩, 507, (some .boolean))), (24, (⟨"RiverWage$Ledger", "changeOf", "(IIII)I"⟩, 528, (some .int))), (25, (⟨"RiverWage$Ledger", "copyOf", "(LRiverWage$Ledger;)V"⟩, 863, none)), (26, (⟨"RiverWage$Ledger", "isShut", "(II)Z"⟩, 878, (some .boolean))), (27, (⟨"RiverWage$Ledger", "silentMonths", "(I)I"⟩, 1012, (some .int))), (28, (⟨"RiverWage$Ledger", "shutMonths", "(I)I"⟩, 1016, (some .int))), (29, (⟨"RiverWage$Ledger", "toldCells", "()I"⟩, 1121, (some .int))), (30, (⟨"RiverWage$Mark", "<init>", "()V"⟩, 270, none)), (31, (⟨"RiverWage$Mark", "lay", "(LRiverWage$Ledger;LRiverWage$Ledger;I)V"⟩, 1095, none))], [(32, (⟨"RiverWage$Mark", "isLaid", "()Z"⟩, 1100, (some .boolean))), (33, (⟨"RiverWage$Mark", "otherRivers", "()I"⟩, 1104, (some .int))), (34, (⟨"RiverWage$Mark", "bringBack", "(LRiverWage$Ledger;LRiverWage$Ledger;)V"⟩, 1108, none)), (35, (⟨"RiverWage$OtherRivers", "<init>", "()V"⟩, 250, none)), (36, (⟨"RiverWage$OtherRivers", "isFull", "()Z"⟩, 961, (some .boolean))), (37, (⟨"RiverWage$OtherRivers", "add", "(IIZ)I"⟩, 965, (some .int))), (38, (⟨"RiverWage$OtherRivers", "allKitchens", "(Z)I"⟩, 974, (some .int))), (39, (⟨"RiverWage$OtherRivers", "allSums", "(Z)I"⟩, 978, (some .int))), (40, (⟨"RiverWage$OtherRivers", "size", "()I"⟩, 1091, (some .int))), (41, (⟨"RiverWage$OtherRivers", "cutTo", "(I)V"⟩, 1112, none)), (42, (⟨"RiverWage$OtherRivers", "printedSize", "()I"⟩, 1125, (some .int))), (43, (⟨"RiverWage$Reader", "<init>", "(Ljava/lang/String;Ljava/lang/String;[I)V"⟩, 155, none)), (44, (⟨"RiverWage$Reader", "readAll", "(LRiverWage$Tokens;LRiverWage$Script;)I"⟩, 612, (some .int))), (45, (⟨"RiverWage$Reader", "readToken", "(LRiverWage$Tokens;LRiverWage$Script;)I"⟩, 728, (some .int))), (46, (⟨"RiverWage$Reader", "readLineWord", "(LRiverWage$Tokens;LRiverWage$Script;)I"⟩, 732, (some .int))), (47, (⟨"RiverWage$Reader", "readOperand", "(LRiverWage$Tokens;LRiverWage$Script;)I"⟩, 774, (some .int)))], [(48, (⟨"RiverWage$Reader", "push", "(I)V"⟩, 783, none)), (49, (⟨"RiverWage$Reader", "endPart", "(LRiverWage$Script;)V"⟩, 795, none)), (50, (⟨"RiverWage$Reader", "readOperator", "(LRiverWage$Tokens;LRiverWage$Script;)I"⟩, 799, (some .int))), (51, (⟨"RiverWage$Reader", "readEnd", "(LRiverWage$Script;)I"⟩, 803, (some .int))), (52, (⟨"RiverWage$Reader", "release", "(ILRiverWage$Script;)V"⟩, 807, none)), (53, (⟨"RiverWage$Reader", "topRank", "()I"⟩, 811, (some .int))), (54, (⟨"RiverWage$Reader", "readClose", "(LRiverWage$Script;)I"⟩, 817, (some .int))), (55, (⟨"RiverWage$Reader", "operatorOf", "(LRiverWage$Tokens;)I"⟩, 820, (some .int))), (56, (⟨"RiverWage$Reader", "readNumeral", "(LRiverWage$Tokens;LRiverWage$Script;)I"⟩, 825, (some .int))), (57, (⟨"RiverWage$Roster", "<init>", "()V"⟩, 40, none)), (58, (⟨"RiverWage$Roster", "put", "(IIIIZ)V"⟩, 364, none)), (59, (⟨"RiverWage$Roster", "isTold", "(I)Z"⟩, 376, (some .boolean))), (60, (⟨"RiverWage$Roster", "bankOf", "(I)I"⟩, 450, (some .int))), (61, (⟨"RiverWage$Roster", "mostOf", "(I)I"⟩, 458, (some .int))), (62, (⟨"RiverWage$Roster", "sizeOf", "(I)I"⟩, 499, (some .int))), (63, (⟨"RiverWage$Roster", "isOn", "(II)Z"⟩, 503, (some .boolean)))], [(64, (⟨"RiverWage$Roster", "wageOf", "(I)I"⟩, 887, (some .int))), (65, (⟨"RiverWage$Roster", "isChosen", "(I)Z"⟩, 1008, (some .boolean))), (66, (⟨"RiverWage$Roster", "chosenSize", "()I"⟩, 1129, (some .int))), (67, (⟨"RiverWage$Script", "<init>", "(I)V"⟩, 194, none)), (68, (⟨"RiverWage$Script", "clear", "()V"⟩, 616, none)), (69, (⟨"RiverWage$Script", "hasLine", "(I)Z"⟩, 765, (some .boolean))), (70, (⟨"RiverWage$Script", "beginLine", "(I)V"⟩, 769, none)), (71, (⟨"RiverWage$Script", "emit", "(II)V"⟩, 791, none)), (72, (⟨"RiverWage$Script", "putNumber", "(II)V"⟩, 829, none)), (73, (⟨"RiverWage$Script", "copyOf", "(LRiverWage$Script;)V"⟩, 837, none)), (74, (⟨"RiverWage$Script", "valueOr", "(I[II)I"⟩, 904, (some .int))), (75, (⟨"RiverWage$Script", "valueOf", "(I[I)I"⟩, 908, (some .int))), (76, (⟨"RiverWage$Script", "operate", "(II)I"⟩, 912, (some .int))), (77, (⟨"RiverWage$Script", "joined", "(III)I"⟩, 915, (some .int))), (78, (⟨"RiverWage$Script", "operandOf", "(I[I)I"⟩, 918, (some .int))), (79, (⟨"RiverWage$Script", "numberOr", "(II)I"⟩, 994, (some .int)))], [(80, (⟨"RiverWage$Sides", "<init>", "()V"⟩, 90, none)), (81, (⟨"RiverWage$Sides", "clear", "()V"⟩, 445, none)), (82, (⟨"RiverWage$Sides", "put", "(III)V"⟩, 462, none)), (83, (⟨"RiverWage$Sides", "meansApart", "(LRiverWage$Fraction;)Z"⟩, 466, (some .boolean))), (84, (⟨"RiverWage$Sides", "sizeOf", "(I)I"⟩, 470, (some .int))), (85, (⟨"RiverWage$Sides", "sumOf", "(I)I"⟩, 474, (some .int))), (86, (⟨"RiverWage$Sides", "isOneEmpty", "()Z"⟩, 533, (some .boolean))), (87, (⟨"RiverWage$Sides", "dealt", "(LRiverWage$Fraction;)V"⟩, 538, none)), (88, (⟨"RiverWage$Sides", "gatherBoth", "()V"⟩, 545, none)), (89, (⟨"RiverWage$Sides", "sumOfRow", "(I)I"⟩, 558, (some .int))), (90, (⟨"RiverWage$Sides", "drawn", "(ILRiverWage$Fraction;)V"⟩, 1045, none)), (91, (⟨"RiverWage$Sides", "sumsOfDraws", "(II[I)I"⟩, 1050, (some .int))), (92, (⟨"RiverWage$Sides", "gather", "(I)I"⟩, 1054, (some .int))), (93, (⟨"RiverWage$Sides", "leaveOut", "(I)V"⟩, 1215, none)), (94, (⟨"RiverWage$Sides", "sumOfChosen", "(IIZ)J"⟩, 1261, (some .long))), (95, (⟨"RiverWage$Sides", "sortRow", "(I)V"⟩, 1265, none))], [(96, (⟨"RiverWage$Tokens", "<init>", "()V"⟩, 125, none)), (97, (⟨"RiverWage$Tokens", "addBytes", "(J)V"⟩, 587, none)), (98, (⟨"RiverWage$Tokens", "size", "()I"⟩, 593, (some .int))), (99, (⟨"RiverWage$Tokens", "empty", "()V"⟩, 604, none)), (100, (⟨"RiverWage$Tokens", "rewind", "()V"⟩, 620, none)), (101, (⟨"RiverWage$Tokens", "advance", "()V"⟩, 624, none)), (102, (⟨"RiverWage$Tokens", "isBlank", "(C)Z"⟩, 627, (some .boolean))), (103, (⟨"RiverWage$Tokens", "isLetter", "(C)Z"⟩, 630, (some .boolean))), (104, (⟨"RiverWage$Tokens", "takeWord", "()V"⟩, 634, none)), (105, (⟨"RiverWage$Tokens", "isDigit", "(C)Z"⟩, 637, (some .boolean))), (106, (⟨"RiverWage$Tokens", "takeNumber", "()V"⟩, 641, none)), (107, (⟨"RiverWage$Tokens", "kindNow", "()I"⟩, 736, (some .int))), (108, (⟨"RiverWage$Tokens", "wordAmong", "(Ljava/lang/String;)I"⟩, 740, (some .int))), (109, (⟨"RiverWage$Tokens", "isSign", "(C)Z"⟩, 779, (some .boolean))), (110, (⟨"RiverWage$Tokens", "valueNow", "()I"⟩, 787, (some .int))), (111, (⟨"RiverWage$Tokens", "place", "()I"⟩, 833, (some .int)))], [(112, (⟨"RiverWage$World", "<init>", "(LRiverWage$Roster;LRiverWage$Ledger;LRiverWage$Floors;)V"⟩, 223, none)), (113, (⟨"RiverWage$World", "runUpTo", "(LRiverWage$Script;II)V"⟩, 859, none)), (114, (⟨"RiverWage$World", "live", "(LRiverWage$Script;II)V"⟩, 871, none)), (115, (⟨"RiverWage$World", "fillFacts", "(IIZ)V"⟩, 882, none)), (116, (⟨"RiverWage$World", "clip", "(I)I"⟩, 921, (some .int))), (117, (⟨"RiverWage$World", "ledger", "()LRiverWage$Ledger;"⟩, 927, (some (.object "RiverWage$Ledger")))), (118, (⟨"RiverWage", "<init>", "()V"⟩, 32, none)), (119, (⟨"RiverWage", "kitchen", "(IIIIZ)Z"⟩, 351, (some .boolean))), (120, (⟨"RiverWage", "isKitchen", "(I)Z"⟩, 354, (some .boolean))), (121, (⟨"RiverWage", "within", "(III)Z"⟩, 357, (some .boolean))), (122, (⟨"RiverWage", "isBank", "(I)Z"⟩, 360, (some .boolean))), (123, (⟨"RiverWage", "call", "(IIII)Z"⟩, 368, (some .boolean))), (124, (⟨"RiverWage", "isToldKitchen", "(I)Z"⟩, 372, (some .boolean))), (125, (⟨"RiverWage", "isMonth", "(I)Z"⟩, 379, (some .boolean))), (126, (⟨"RiverWage", "sheet", "(IIII)Z"⟩, 395, (some .boolean))), (127, (⟨"RiverWage", "tenths", "(I)Z"⟩, 399, (some .boolean)))], [(128, (⟨"RiverWage", "floor", "(IIII)Z"⟩, 403, (some .boolean))), (129, (⟨"RiverWage", "hands", "(II)I"⟩, 411, (some .int))), (130, (⟨"RiverWage", "swings", "(II)I"⟩, 434, (some .int))), (131, (⟨"RiverWage", "areTwoMonths", "(II)Z"⟩, 437, (some .boolean))), (132, (⟨"RiverWage", "fillByBounds", "(IIZ)V"⟩, 441, none)), (133, (⟨"RiverWage", "boundHands", "(IIZ)I"⟩, 454, (some .int))), (134, (⟨"RiverWage", "next", "(II)I"⟩, 495, (some .int))), (135, (⟨"RiverWage", "silentAmong", "(III)I"⟩, 512, (some .int))), (136, (⟨"RiverWage", "odds", "(III)J"⟩, 516, (some .long))), (137, (⟨"RiverWage", "isFractionPart", "(I)Z"⟩, 519, (some .boolean))), (138, (⟨"RiverWage", "fillByCalls", "(II)V"⟩, 524, none)), (139, (⟨"RiverWage", "alike", "(II)J"⟩, 566, (some .long))), (140, (⟨"RiverWage", "feed", "(JJJ)I"⟩, 583, (some .int))), (141, (⟨"RiverWage", "law", "(I)I"⟩, 597, (some .int))), (142, (⟨"RiverWage", "isText", "(I)Z"⟩, 600, (some .boolean))), (143, (⟨"RiverWage", "readInto", "(LRiverWage$Reader;LRiverWage$Script;)I"⟩, 608, (some .int)))], [(144, (⟨"RiverWage", "world", "(IIII)I"⟩, 855, (some .int))), (145, (⟨"RiverWage", "fits", "(II)J"⟩, 931, (some .long))), (146, (⟨"RiverWage", "farFromTold", "(LRiverWage$Script;I)J"⟩, 935, (some .long))), (147, (⟨"RiverWage", "farOfKitchen", "(I)J"⟩, 939, (some .long))), (148, (⟨"RiverWage", "best", "(I)I"⟩, 944, (some .int))), (149, (⟨"RiverWage", "rivers", "(IIIII)I"⟩, 948, (some .int))), (150, (⟨"RiverWage", "fillByWorld", "(II)V"⟩, 953, none)), (151, (⟨"RiverWage", "other", "(IIZ)I"⟩, 957, (some .int))), (152, (⟨"RiverWage", "drawer", "(I)I"⟩, 970, (some .int))), (153, (⟨"RiverWage", "writer", "(I)I"⟩, 982, (some .int))), (154, (⟨"RiverWage", "takes", "(II)I"⟩, 986, (some .int))), (155, (⟨"RiverWage", "tenthsOf", "(LRiverWage$Script;)I"⟩, 990, (some .int))), (156, (⟨"RiverWage", "isTaken", "(LRiverWage$Script;II)Z"⟩, 998, (some .boolean))), (157, (⟨"RiverWage", "fromOf", "(LRiverWage$Script;)I"⟩, 1003, (some .int))), (158, (⟨"RiverWage", "toOf", "(LRiverWage$Script;)I"⟩, 1021, (some .int))), (159, (⟨"RiverWage", "isBelowFloor", "(II)Z"⟩, 1025, (some .boolean)))], [(160, (⟨"RiverWage", "book", "(IIII)Z"⟩, 1031, (some .boolean))), (161, (⟨"RiverWage", "lots", "(IIII)J"⟩, 1036, (some .long))), (162, (⟨"RiverWage", "mostDrawn", "(II)I"⟩, 1040, (some .int))), (163, (⟨"RiverWage", "needed", "(III)I"⟩, 1061, (some .int))), (164, (⟨"RiverWage", "slips", "(II)I"⟩, 1070, (some .int))), (165, (⟨"RiverWage", "where", "(I)I"⟩, 1074, (some .int))), (166, (⟨"RiverWage", "weightOf", "(I)I"⟩, 1078, (some .int))), (167, (⟨"RiverWage", "mark", "(IZ)Z"⟩, 1087, (some .boolean))), (168, (⟨"RiverWage", "count", "(I)I"⟩, 1117, (some .int))), (169, (⟨"RiverWage", "bank", "(IIII)I"⟩, 1137, (some .int))), (170, (⟨"RiverWage", "bankShare", "(IIII)I"⟩, 1203, (some .int))), (171, (⟨"RiverWage", "river", "(IIII)J"⟩, 1211, (some .long))), (172, (⟨"RiverWage", "part", "(IIII)J"⟩, 1222, (some .long))), (173, (⟨"RiverWage", "bounds", "(III)J"⟩, 1234, (some .long))), (174, (⟨"RiverWage", "isExtremePart", "(I)Z"⟩, 1237, (some .boolean))), (175, (⟨"RiverWage", "isOfGreatest", "(I)Z"⟩, 1240, (some .boolean)))], [(176, (⟨"RiverWage", "partOfExtreme", "(I)I"⟩, 1243, (some .int))), (177, (⟨"RiverWage", "sheets", "(IIZI)J"⟩, 1250, (some .long))), (178, (⟨"RiverWage", "choosing", "(IIII)J"⟩, 1257, (some .long))), (179, (⟨"RiverWage", "beside", "(III)J"⟩, 1272, (some .long))), (180, (⟨"RiverWage", "apart", "(IIII)J"⟩, 1279, (some .long))), (181, (⟨"RiverWage", "others", "(ZI)J"⟩, 1286, (some .long))), (182, (⟨"RiverWage", "writes", "(II)J"⟩, 1293, (some .long))), (183, (⟨"RiverWage", "isWritten", "(LRiverWage$Script;I)Z"⟩, 1297, (some .boolean))), (184, (⟨"RiverWage", "forks", "(I)J"⟩, 1304, (some .long))), (185, (⟨"RiverWage", "isFork", "(I)Z"⟩, 1308, (some .boolean))), (186, (⟨"RiverWage", "keepExtreme", "(ZZ)V"⟩, 1312, none)), (187, (⟨"RiverWage", "booked", "(III)J"⟩, 1319, (some .long))), (188, (⟨"RiverWage", "rateOf", "(II)J"⟩, 1323, (some .long))), (189, (⟨"RiverWage", "paidOf", "(II)J"⟩, 1327, (some .long))), (190, (⟨"RiverWage", "hoursOf", "(II)J"⟩, 1331, (some .long))), (191, (⟨"RiverWage", "restOf", "(II)J"⟩, 1335, (some .long)))], [(192, (⟨"RiverWage", "tenTakings", "(II)J"⟩, 1339, (some .long))), (193, (⟨"RiverWage", "closes", "(IIII)J"⟩, 1347, (some .long))), (194, (⟨"RiverWage", "closing", "(IIII)J"⟩, 1351, (some .long))), (195, (⟨"RiverWage", "mixed", "(III)J"⟩, 1358, (some .long))), (196, (⟨"RiverWage", "mixedChange", "(IIIZ)I"⟩, 1362, (some .int))), (197, (⟨"RiverWageModel", "thrown", "()I"⟩, 1366, (some .int))), (198, (⟨"RiverWageModel", "feed", "(JJJ)I"⟩, 1370, (some .int))), (199, (⟨"RiverWageModel", "lay", "(J)V"⟩, 1375, none)), (200, (⟨"RiverWageModel", "<init>", "()V"⟩, 1379, none)), (201, (⟨"RiverWageModel", "kitchen", "(IIIIZ)Z"⟩, 1588, (some .boolean))), (202, (⟨"RiverWageModel", "within", "(III)Z"⟩, 1591, (some .boolean))), (203, (⟨"RiverWageModel", "call", "(IIII)Z"⟩, 1595, (some .boolean))), (204, (⟨"RiverWageModel", "isKitchen", "(I)Z"⟩, 1599, (some .boolean))), (205, (⟨"RiverWageModel", "isMonth", "(I)Z"⟩, 1602, (some .boolean))), (206, (⟨"RiverWageModel", "sheet", "(IIII)Z"⟩, 1606, (some .boolean))), (207, (⟨"RiverWageModel", "tenths", "(I)Z"⟩, 1610, (some .boolean)))], [(208, (⟨"RiverWageModel", "floor", "(IIII)Z"⟩, 1614, (some .boolean))), (209, (⟨"RiverWageModel", "hands", "(II)I"⟩, 1618, (some .int))), (210, (⟨"RiverWageModel", "handsOf", "(II)I"⟩, 1622, (some .int))), (211, (⟨"RiverWageModel", "handsBy", "(II)I"⟩, 1626, (some .int))), (212, (⟨"RiverWageModel", "bank", "(IIII)I"⟩, 1630, (some .int))), (213, (⟨"RiverWageModel", "areMonths", "(II)Z"⟩, 1633, (some .boolean))), (214, (⟨"RiverWageModel", "isCounted", "(III)Z"⟩, 1637, (some .boolean))), (215, (⟨"RiverWageModel", "changeOf", "(III)I"⟩, 1641, (some .int))), (216, (⟨"RiverWageModel", "river", "(IIII)J"⟩, 1645, (some .long))), (217, (⟨"RiverWageModel", "isWhat", "(I)Z"⟩, 1648, (some .boolean))), (218, (⟨"RiverWageModel", "findRiver", "(III)Z"⟩, 1652, (some .boolean))), (219, (⟨"RiverWageModel", "beginsSums", "()V"⟩, 1656, none)), (220, (⟨"RiverWageModel", "adds", "(ZJ)V"⟩, 1660, none)), (221, (⟨"RiverWageModel", "differs", "()Z"⟩, 1664, (some .boolean))), (222, (⟨"RiverWageModel", "lowest", "(I)J"⟩, 1668, (some .long))), (223, (⟨"RiverWageModel", "common", "(JJ)J"⟩, 1671, (some .long)))], [(224, (⟨"RiverWageModel", "part", "(IIII)J"⟩, 1675, (some .long))), (225, (⟨"RiverWageModel", "bounds", "(III)J"⟩, 1679, (some .long))), (226, (⟨"RiverWageModel", "findBound", "(III)Z"⟩, 1683, (some .boolean))), (227, (⟨"RiverWageModel", "mayChange", "(IIII)I"⟩, 1687, (some .int))), (228, (⟨"RiverWageModel", "swings", "(II)I"⟩, 1691, (some .int))), (229, (⟨"RiverWageModel", "next", "(II)I"⟩, 1695, (some .int))), (230, (⟨"RiverWageModel", "sheets", "(IIZI)J"⟩, 1699, (some .long))), (231, (⟨"RiverWageModel", "choosing", "(IIII)J"⟩, 1703, (some .long))), (232, (⟨"RiverWageModel", "sumOf", "(IIIII)J"⟩, 1707, (some .long))), (233, (⟨"RiverWageModel", "odds", "(III)J"⟩, 1711, (some .long))), (234, (⟨"RiverWageModel", "beside", "(III)J"⟩, 1717, (some .long))), (235, (⟨"RiverWageModel", "alike", "(II)J"⟩, 1721, (some .long))), (236, (⟨"RiverWageModel", "apart", "(IIII)J"⟩, 1725, (some .long))), (237, (⟨"RiverWageModel", "law", "(I)I"⟩, 1729, (some .int))), (238, (⟨"RiverWageModel", "cutAll", "()V"⟩, 1733, none)), (239, (⟨"RiverWageModel", "isLetter", "(I)Z"⟩, 1736, (some .boolean)))], [(240, (⟨"RiverWageModel", "rank", "(I)I"⟩, 1740, (some .int))), (241, (⟨"RiverWageModel", "isDigit", "(I)Z"⟩, 1743, (some .boolean))), (242, (⟨"RiverWageModel", "isSignOf", "(I)Z"⟩, 1748, (some .boolean))), (243, (⟨"RiverWageModel", "readLine", "()V"⟩, 1752, none)), (244, (⟨"RiverWageModel", "isWord", "(I)Z"⟩, 1756, (some .boolean))), (245, (⟨"RiverWageModel", "wrong", "(I)V"⟩, 1760, none)), (246, (⟨"RiverWageModel", "takeWord", "(I)V"⟩, 1764, none)), (247, (⟨"RiverWageModel", "hasWord", "(I)Z"⟩, 1768, (some .boolean))), (248, (⟨"RiverWageModel", "all", "(I)V"⟩, 1772, none)), (249, (⟨"RiverWageModel", "test", "(I)V"⟩, 1776, none)), (250, (⟨"RiverWageModel", "sums", "(I)V"⟩, 1780, none)), (251, (⟨"RiverWageModel", "products", "(I)V"⟩, 1784, none)), (252, (⟨"RiverWageModel", "takePart", "(I)V"⟩, 1788, none)), (253, (⟨"RiverWageModel", "factHere", "()I"⟩, 1792, (some .int))), (254, (⟨"RiverWageModel", "isSign", "(I)Z"⟩, 1796, (some .boolean))), (255, (⟨"RiverWageModel", "emit", "(II)V"⟩, 1800, none))], [(256, (⟨"RiverWageModel", "hasSign", "(I)Z"⟩, 1804, (some .boolean))), (257, (⟨"RiverWageModel", "takeSign", "(I)V"⟩, 1808, none)), (258, (⟨"RiverWageModel", "keepsCodes", "(I)V"⟩, 1812, none)), (259, (⟨"RiverWageModel", "world", "(IIII)I"⟩, 1816, (some .int))), (260, (⟨"RiverWageModel", "runs", "(II)V"⟩, 1820, none)), (261, (⟨"RiverWageModel", "goesOn", "(IIII)V"⟩, 1828, none)), (262, (⟨"RiverWageModel", "isSo", "(II)Z"⟩, 1832, (some .boolean))), (263, (⟨"RiverWageModel", "worthOf", "(II)I"⟩, 1836, (some .int))), (264, (⟨"RiverWageModel", "worthAt", "(I)I"⟩, 1840, (some .int))), (265, (⟨"RiverWageModel", "both", "(III)I"⟩, 1843, (some .int))), (266, (⟨"RiverWageModel", "handsByLine", "(III)I"⟩, 1847, (some .int))), (267, (⟨"RiverWageModel", "worldHands", "(II)I"⟩, 1851, (some .int))), (268, (⟨"RiverWageModel", "fits", "(II)J"⟩, 1855, (some .long))), (269, (⟨"RiverWageModel", "areSeeds", "(I)Z"⟩, 1858, (some .boolean))), (270, (⟨"RiverWageModel", "fitOf", "(II)J"⟩, 1862, (some .long))), (271, (⟨"RiverWageModel", "best", "(I)I"⟩, 1866, (some .int)))], [(272, (⟨"RiverWageModel", "rivers", "(IIIII)I"⟩, 1870, (some .int))), (273, (⟨"RiverWageModel", "other", "(IIZ)I"⟩, 1874, (some .int))), (274, (⟨"RiverWageModel", "others", "(ZI)J"⟩, 1878, (some .long))), (275, (⟨"RiverWageModel", "findOthers", "(Z)Z"⟩, 1882, (some .boolean))), (276, (⟨"RiverWageModel", "drawer", "(I)I"⟩, 1886, (some .int))), (277, (⟨"RiverWageModel", "writer", "(I)I"⟩, 1890, (some .int))), (278, (⟨"RiverWageModel", "isWriterNumber", "(I)Z"⟩, 1893, (some .boolean))), (279, (⟨"RiverWageModel", "readWriterLine", "()V"⟩, 1897, none)), (280, (⟨"RiverWageModel", "takes", "(II)I"⟩, 1902, (some .int))), (281, (⟨"RiverWageModel", "tenthsBy", "(I)I"⟩, 1906, (some .int))), (282, (⟨"RiverWageModel", "doesTake", "(III)Z"⟩, 1910, (some .boolean))), (283, (⟨"RiverWageModel", "monthsOf", "(II)I"⟩, 1914, (some .int))), (284, (⟨"RiverWageModel", "writes", "(II)J"⟩, 1918, (some .long))), (285, (⟨"RiverWageModel", "findWritten", "(II)Z"⟩, 1922, (some .boolean))), (286, (⟨"RiverWageModel", "forks", "(I)J"⟩, 1926, (some .long))), (287, (⟨"RiverWageModel", "book", "(IIII)Z"⟩, 1930, (some .boolean)))], [(288, (⟨"RiverWageModel", "booked", "(III)J"⟩, 1935, (some .long))), (289, (⟨"RiverWageModel", "rateOf", "(II)J"⟩, 1939, (some .long))), (290, (⟨"RiverWageModel", "paidOf", "(II)J"⟩, 1943, (some .long))), (291, (⟨"RiverWageModel", "restOf", "(II)J"⟩, 1947, (some .long))), (292, (⟨"RiverWageModel", "closes", "(IIII)J"⟩, 1951, (some .long))), (293, (⟨"RiverWageModel", "closesBy", "(IIII)J"⟩, 1955, (some .long))), (294, (⟨"RiverWageModel", "lots", "(IIII)J"⟩, 1959, (some .long))), (295, (⟨"RiverWageModel", "laysLots", "(II)Z"⟩, 1963, (some .boolean))), (296, (⟨"RiverWageModel", "findLots", "(I)V"⟩, 1968, none)), (297, (⟨"RiverWageModel", "signOf", "(J)I"⟩, 1971, (some .int))), (298, (⟨"RiverWageModel", "bits", "(I)I"⟩, 1974, (some .int))), (299, (⟨"RiverWageModel", "sumIn", "([II)J"⟩, 1977, (some .long))), (300, (⟨"RiverWageModel", "needed", "(III)I"⟩, 1981, (some .int))), (301, (⟨"RiverWageModel", "slips", "(II)I"⟩, 1986, (some .int))), (302, (⟨"RiverWageModel", "sheetHands", "(I)I"⟩, 1990, (some .int))), (303, (⟨"RiverWageModel", "mixed", "(III)J"⟩, 1994, (some .long)))], [(304, (⟨"RiverWageModel", "where", "(I)I"⟩, 1998, (some .int))), (305, (⟨"RiverWageModel", "weightOf", "(I)I"⟩, 2002, (some .int))), (306, (⟨"RiverWageModel", "mark", "(IZ)Z"⟩, 2006, (some .boolean))), (307, (⟨"RiverWageModel", "keeps", "(I[IZ)V"⟩, 2010, none)), (308, (⟨"RiverWageModel", "count", "(I)I"⟩, 2014, (some .int))), (309, (⟨"RiverWageLaw", "law", "([I)Z"⟩, 99999, (some .boolean))), (310, (⟨"RiverWageLaw", "bank", "(LRiverWage;IIII[J)I"⟩, 1132, (some .int))), (311, (⟨"RiverWageLaw", "river", "(LRiverWage;IIII[J)I"⟩, 1207, (some .int))), (312, (⟨"RiverWageLaw", "part", "(LRiverWage;IIII[J)I"⟩, 1218, (some .int))), (313, (⟨"RiverWageLaw", "bounds", "(LRiverWage;III[J)I"⟩, 1230, (some .int))), (314, (⟨"RiverWageLaw", "sheets", "(LRiverWage;IIZI[J)I"⟩, 1246, (some .int))), (315, (⟨"RiverWageLaw", "choosing", "(LRiverWage;IIII[J)I"⟩, 1253, (some .int))), (316, (⟨"RiverWageLaw", "beside", "(LRiverWage;III[J)I"⟩, 1268, (some .int))), (317, (⟨"RiverWageLaw", "apart", "(LRiverWage;IIII[J)I"⟩, 1275, (some .int))), (318, (⟨"RiverWageLaw", "others", "(LRiverWage;ZI[J)I"⟩, 1282, (some .int))), (319, (⟨"RiverWageLaw", "writes", "(LRiverWage;II[J)I"⟩, 1289, (some .int)))], [(320, (⟨"RiverWageLaw", "forks", "(LRiverWage;I[J)I"⟩, 1300, (some .int))), (321, (⟨"RiverWageLaw", "booked", "(LRiverWage;III[J)I"⟩, 1315, (some .int))), (322, (⟨"RiverWageLaw", "closes", "(LRiverWage;IIII[J)I"⟩, 1343, (some .int))), (323, (⟨"RiverWageLaw", "mixed", "(LRiverWage;III[J)I"⟩, 1354, (some .int))), (324, (⟨"java/util/Arrays", "fill", "([II)V"⟩, 81, none)), (325, (⟨"java/util/Arrays", "copyOf", "([II)[I"⟩, 840, (some (.array .int)))), (326, (⟨"java/lang/Integer", "bitCount", "(I)I"⟩, 551, (some .int))), (327, (⟨"java/lang/Integer", "compare", "(II)I"⟩, 1057, (some .int))), (328, (⟨"java/lang/Long", "compare", "(JJ)I"⟩, 491, (some .int))), (329, (⟨"java/lang/String", "indexOf", "(I)I"⟩, 646, (some .int))), (330, (⟨"java/lang/String", "indexOf", "(II)I"⟩, 650, (some .int))), (331, (⟨"java/lang/String", "isLatin1", "()Z"⟩, 654, (some .boolean))), (332, (⟨"java/lang/String", "length", "()I"⟩, 660, (some .int))), (333, (⟨"java/lang/String", "coder", "()B"⟩, 664, (some .byte))), (334, (⟨"java/lang/String", "checkBoundsBeginEnd", "(III)V"⟩, 693, none)), (335, (⟨"java/lang/String", "charAt", "(I)C"⟩, 745, (some .char)))], [(336, (⟨"java/lang/String", "checkIndex", "(II)V"⟩, 751, none)), (337, (⟨"java/lang/StringLatin1", "indexOf", "([BIII)I"⟩, 667, (some .int))), (338, (⟨"java/lang/StringLatin1", "canEncode", "(I)Z"⟩, 670, (some .boolean))), (339, (⟨"java/lang/StringLatin1", "indexOfChar", "([BIII)I"⟩, 675, (some .int))), (340, (⟨"java/lang/StringLatin1", "charAt", "([BI)C"⟩, 748, (some .char)))]]
/-- how a method is called: 1 virtual, 2 static, 3 a constructor, 14 a static one with a table of its own, 0 the law -/
def pm_kdt : pm_T Nat := [[(0, 3), (1, 1), (2, 1), (3, 1), (4, 1), (5, 3), (6, 1), (7, 2), (8, 1), (9, 1), (10, 1), (11, 1), (12, 1), (13, 1), (14, 1), (15, 3)], [(16, 1), (17, 1), (18, 1), (19, 1), (20, 1), (21, 1), (22, 1), (23, 1), (24, 1), (25, 1), (26, 1), (27, 1), (28, 1), (29, 1), (30, 3), (31, 1)], [(32, 1), (33, 1), (34, 1), (35, 3), (36, 1), (37, 1), (38, 1), (39, 1), (40, 1), (41, 1), (42, 1), (43, 3), (44, 1), (45, 1), (46, 1), (47, 1)], [(48, 1), (49, 1), (50, 1), (51, 1), (52, 1), (53, 1), (54, 1), (55, 2), (56, 1), (57, 3), (58, 1), (59, 1), (60, 1), (61, 1), (62, 1), (63, 1)], [(64, 1), (65, 1), (66, 1), (67, 3), (68, 1), (69, 1), (70, 1), (71, 1), (72, 1), (73, 1), (74, 1), (75, 1), (76, 1), (77, 2), (78, 2), (79, 1)], [(80, 3), (81, 1), (82, 1), (83, 1), (84, 1), (85, 1), (86, 1), (87, 1), (88, 1), (89, 1), (90, 1), (91, 1), (92, 1), (93, 1), (94, 1), (95, 1)], [(96, 3), (97, 1), (98, 1), (99, 1), (100, 1), (101, 1), (102, 2), (103, 2), (104, 1), (105, 2), (106, 1), (107, 1), (108, 1), (109, 1), (110, 1), (111, 1)], [(112, 3), (113, 1), (114, 1), (115, 1), (116, 2), (117, 1), (118, 3), (119, 1), (120, 2), (121, 2), (122, 2), (123, 1), (124, 1), (125, 2), (126, 1), (127, 1)], [(128, 1), (129, 1), (130, 1), (131, 2), (132, 1), (133, 1), (134, 1), (135, 1), (136, 1), (137, 2), (138, 1), (139, 1), (140, 1), (141, 1), (142, 2), (143, 1)], [(144, 1), (145, 1), (146, 1), (147, 1), (148, 1), (149, 1), (150, 1), (151, 1), (152, 1), (153, 1), (154, 1), (155, 1), (156, 1), (157, 1), (158, 1), (159, 1)], [(160, 1), (161, 1), (162, 1), (163, 1), (164, 1), (165, 1), (166, 1), (167, 1), (168, 1), (169, 1), (170, 1), (171, 1), (172, 1), (173, 1), (174, 2), (175, 2)], [(176, 2), (177, 1), (178, 1), (179, 1), (180, 1), (181, 1), (182, 1), (183, 1), (184, 1), (185, 1), (186, 1), (187, 1), (188, 1), (189, 1), (190, 1), (191, 1)], [(192, 1), (193, 1), (194, 1), (195, 1), (196, 1), (197, 1), (198, 1), (199, 1), (200, 3), (201, 1), (202, 2), (203, 1), (204, 1), (205, 2), (206, 1), (207, 1)], [(208, 1), (209, 1), (210, 1), (211, 1), (212, 1), (213, 2), (214, 1), (215, 1), (216, 1), (217, 2), (218, 1), (219, 1), (220, 1), (221, 1), (222, 1), (223, 2)], [(224, 1), (225, 1), (226, 1), (227, 1), (228, 1), (229, 1), (230, 1), (231, 1), (232, 1), (233, 1), (234, 1), (235, 1), (236, 1), (237, 1), (238, 1), (239, 2)], [(240, 2), (241, 2), (242, 2), (243, 1), (244, 1), (245, 1), (246, 1), (247, 1), (248, 1), (249, 1), (250, 1), (251, 1), (252, 1), (253, 1), (254, 1), (255, 1)], [(256, 1), (257, 1), (258, 1), (259, 1), (260, 1), (261, 1), (262, 1), (263, 1), (264, 1), (265, 2), (266, 1), (267, 1), (268, 1), (269, 2), (270, 1), (271, 1)], [(272, 1), (273, 1), (274, 1), (275, 1), (276, 1), (277, 1), (278, 2), (279, 1), (280, 1), (281, 1), (282, 1), (283, 1), (284, 1), (285, 1), (286, 1), (287, 1)], [(288, 1), (289, 1), (290, 1), (291, 1), (292, 1), (293, 1), (294, 1), (295, 1), (296, 1), (297, 2), (298, 2), (299, 2), (300, 1), (301, 1), (302, 1), (303, 1)], [(304, 1), (305, 1), (306, 1), (307, 1), (308, 1), (309, 0), (310, 14), (311, 14), (312, 14), (313, 14), (314, 14), (315, 14), (316, 14), (317, 14), (318, 14), (319, 14)], [(320, 14), (321, 14), (322, 14), (323, 14), (324, 2), (325, 2), (326, 2), (327, 2), (328, 2), (329, 1), (330, 1), (331, 1), (332, 1), (333, 1), (334, 2), (335, 1)], [(336, 2), (337, 2), (338, 2), (339, 2), (340, 2)]]
/-- does a type fit the code: 0 int, 1 boolean, 2 long, 3 a reference -/
def pm_tyok (t : Nat) (ty : Option FieldType) : Bool := match t, ty with
  | 0, some .int => true
  | 1, some .boolean => true
  | 2, some .long => true
  | 3, some (.object _) => true
  | 3, some (.array _) => true
  | 4, none => true
  | 5, some .char => true
  | 6, some .byte => true
  | _, _ => false
/-- the names of what is called by its meaning -/
def pm_prn (f : Nat) : MethodName := match f with
  | 0 => Lib.objectInit
  | 1 => Lib.Math.max.name
  | 2 => Lib.Math.min.name
  | 3 => Lib.Math.abs.name
  | 4 => Lib.MathLoose.abs_long.x
  | 5 => arraycopyName
  | _ => ⟨"java/util/Arrays", "fill", "([II)V"⟩
/-- the static tables -/
def pm_stn (a : Nat) : String × String := match a with
  | 1 => ("RiverWage", "LAW_FORMS")
  | 2 => ("RiverWage", "WRITER_FORMS")
  | _ => ("RiverWage$Reader", "RANKS")
/-- String constants: class, pool index, text, place -/
def pm_strs : List (Nat × Nat × String × Nat) := [(11, 70, "hire part shut opens ", 4), (11, 72, "whole half wage floor gap bank month trade draw was ", 5), (11, 84, "take from to tenths ", 6), (11, 86, "bank wage most chosen silent shut bound hands number ", 7), (9, 53, "()<=+-*;", 8), (5, 68, "when ", 9), (5, 102, "not ", 10), (5, 135, "and or ", 11)]
noncomputable def pm_ck (own : Nat) (q : Nat × pm_K) (ps : Nat) : Bool :=
  match q.2.1 with
  | 0 => match vwCl[q.2.2.1]? with
    | some r => Nat.blt q.2.2.2.1 r.2.2 && (decide (tables_1[ps]? = some (.fieldLink (pm_nm own) q.1 (r.2.1 q.2.2.2.1).1 (r.2.1 q.2.2.2.1).2.1 (r.2.1 q.2.2.2.1).2.2.1)) && (pm_tyok q.2.2.2.2 (parseFieldDescriptor (r.2.1 q.2.2.2.1).2.2.1) && (decide ((r.2.1 q.2.2.2.1).1 = r.1) && decide (r.1 = pm_nm q.2.2.1))))
    | none => false
  | 6 => match vwCl[q.2.2.1]? with
    | some r => decide (tables_1[ps]? = some (.classLink (pm_nm own) q.1 r.1)) && Nat.beq q.2.2.2.1 r.2.2
    | none => false
  | 8 => decide (tables_1[ps]? = some (.constant (pm_nm own) q.1 (Int32.ofNat q.2.2.1)))
  | 9 => decide (tables_1[ps]? = some (.constantLong (pm_nm own) q.1 (Int64.ofNat q.2.2.1)))
  | 10 => pm_strs.any (fun r => Nat.beq r.1 own && (Nat.beq r.2.1 q.1 && Nat.beq r.2.2.2 q.2.2.1))
  | 11 => Nat.ble 1 q.2.2.1 && (Nat.ble q.2.2.1 3 && decide (tables_1[ps]? = some (.fieldLink (pm_nm own) q.1 (pm_stn q.2.2.1).1 (pm_stn q.2.2.1).2 "[I")))
  | 12 => Nat.ble q.2.2.1 6 && decide (tables_1[ps]? = some (.methodLink (pm_nm own) q.1 (pm_prn q.2.2.1)))
  | 13 => decide (tables_1[ps]? = some (.classLink (pm_nm own) q.1 "java/util/NoSuchElementException"))
  | _ => (Nat.beq q.2.1 1 || Nat.beq q.2.1 2 || Nat.beq q.2.1 3 || Nat.beq q.2.1 14) && match pm_get pm_hds q.2.2.1, pm_ent q.2.2.1 with
    | some y, some e => (decide (tables_1[ps]? = some (.methodLink (pm_nm own) q.1 y.1)) || decide (tables_1[ps]? = some (.methodLinkNest (pm_nm own) q.1 y.1 "RiverWage"))) && ((match pm_get pm_kdt q.2.2.1 with
      | some kd => Nat.beq kd q.2.1
      | none => false) && (Nat.beq e.1 q.2.2.2.1 && (Nat.beq q.2.1 2 || (Nat.beq q.2.1 14 || (Nat.beq e.2.2.1 q.2.2.2.2)))))
    | _, _ => false
noncomputable def pm_cks (own : Nat) (l : List (Nat × pm_K)) (ps : List Nat) : Bool := match l, ps with
  | [], _ => true
  | q :: l, i :: ps => pm_ck own q i && pm_cks own l ps
  | _ :: _, [] => false
theorem pm_cks_mem {own : Nat} : ∀ {l : List (Nat × pm_K)} {ps : List Nat}, pm_cks own l ps = true → ∀ q ∈ l, ∃ i, pm_ck own q i = true
  | [], _, _, q, hq => absurd hq List.not_mem_nil
  | a :: l, [], h, q, hq => by cases h
  | a :: l, i :: ps, h, q, hq => by
    have h2 : (pm_ck own a i && pm_cks own l ps) = true := h
    rw [Bool.and_eq_true] at h2
    rcases List.mem_cons.mp hq with rfl | hq
    · exact ⟨i, h2.1⟩
    · exact pm_cks_mem h2.2 q hq
theorem pm_ckl0 : pm_cks 0 pm_lk0.flatten [65, 66, 67, 1083] = true := by decide +kernel
theorem pm_ckl1 : pm_cks 1 pm_lk1.flatten [113, 114, 115, 479, 482, 1227, 489] = true := by decide +kernel
theorem pm_ckl2 : pm_cks 2 pm_lk2.flatten [78, 82, 79, 508, 424, 420, 427, 529, 1017, 864] = true := by decide +kernel
theorem pm_ckl3 : pm_cks 3 pm_lk3.flatten [271, 272, 273, 274, 275, 276, 277, 1096] = true := by decide +kernel
theorem pm_ckl4 : pm_cks 4 pm_lk4.flatten [251, 252, 253, 254, 255, 966, 1113] = true := by decide +kernel
theorem pm_ckl5 : pm_cks 5 pm_lk5.flatten [156, 160, 161, 162, 163, 164, 165, 157, 158, 159, 613, 617, 621, 725, 830, 733, 729, 770, 737, 771, 796, 822, 776, 762, 766, 784, 826, 775, 780, 788, 792, 800, 814, 818, 812, 804, 808, 821] = true := by decide +kernel
theorem pm_ckl6 : pm_cks 6 pm_lk6.flatten [41, 42, 43, 44, 45, 46, 500] = true := by decide +kernel
theorem pm_ckl7 : pm_cks 7 pm_lk7.flatten [195, 197, 198, 199, 200, 201, 202, 196, 838, 905, 909, 916, 913] = true := by decide +kernel
theorem pm_ckl8 : pm_cks 8 pm_lk8.flatten [91, 92, 93, 94, 95, 96, 446, 467, 471, 475, 1051, 1262, 539, 542, 546, 549, 555, 1046, 1047, 1055] = true := by decide +kernel
theorem pm_ckl9 : pm_cks 9 pm_lk9.flatten [126, 127, 128, 129, 130, 131, 132, 588, 589, 625, 628, 631, 635, 638, 642, 643, 741, 742] = true := by decide +kernel
theorem pm_ckl10 : pm_cks 10 pm_lk10.flatten [224, 225, 226, 230, 231, 232, 227, 228, 229, 860, 865, 866, 867, 868, 872, 873, 874, 875, 879, 901, 919, 923, 883, 884, 888, 892, 893, 894, 895, 899, 900, 922] = true := by decide +kernel
theorem pm_ckl11 : pm_cks 11 pm_lk11.flatten [33, 36, 38, 287, 60, 62, 288, 73, 75, 289, 290, 291, 292, 293, 86, 88, 294, 108, 110, 295, 296, 121, 123, 297, 147, 149, 150, 151, 153, 298, 186, 187, 188, 299, 190, 192, 300, 301, 302, 303, 219, 221, 304, 246, 248, 305, 265, 306, 268, 352, 358, 355, 361, 369, 377, 380, 384, 388, 404, 412, 416, 435, 1138, 1199, 1200, 504, 1204, 525, 517, 521, 1212, 463, 559, 1223, 442, 373, 447, 459, 1235, 1238, 438, 1241, 485, 496, 455, 509, 451, 1005, 534, 1258, 567, 520, 530, 535, 1022, 1004, 1026, 568, 572, 576, 584, 590, 598, 601, 605, 609, 834, 856, 924, 932, 936, 940, 949, 950, 958, 962, 971, 975, 987, 995, 1294, 1305, 1309, 991, 1000, 1018, 999, 1009, 1013, 1027, 1032, 1320, 1324, 1332, 1348, 1328, 1336, 1340, 1037, 1042, 1062, 1063, 1041, 1359, 1075, 1079, 1088, 1092, 1097, 1101, 1105, 1109, 1118, 1122, 1126] = true := by decide +kernel
theorem pm_ckl12 : pm_cks 12 pm_lk12.flatten [1409, 1371, 1411, 1410, 1380, 1413, 1414, 1415, 1381, 1382, 1383, 1384, 1385, 1386, 1387, 1388, 1389, 1390, 1391, 1392, 1393, 1394, 1395, 1396, 1397, 1398, 1399, 1400, 1401, 1402, 1403, 1404, 1405, 1406, 1407, 1408, 1418, 1419, 1420, 1421, 1422, 1423, 1425, 1426, 1427, 1428, 1429, 1430, 1431, 1432, 1439, 1440, 1442, 1443, 1444, 1445, 1446, 1447, 1448, 1449, 1451, 1452, 1453, 1455, 1456, 1457, 1458, 1459, 1460, 1461, 1462, 1463, 1464, 1465, 1466, 1424, 1734, 1412, 1737, 1738, 1741, 1744, 1745, 1746, 1416, 1417, 1793, 1757, 1753, 1765, 1589, 1596, 1600, 1623, 1619, 1631, 1634, 1638, 1433, 1434, 1669, 1435, 1436, 1437, 1438, 1653, 1657, 1661, 1646, 1649, 1665, 1684, 1680, 1704, 1712, 1713, 1441, 1730, 1454, 1749, 1809, 1761, 1769, 1797, 1805, 1773, 1777, 1801, 1781, 1785, 1789, 1837, 1841, 1833, 1821, 1822, 1823, 1824, 1825, 1829, 1844, 1817, 1848, 1856, 1859, 1450, 1879, 1891, 1894, 1898, 1911, 1903, 1907, 1919, 1931, 1936, 1940, 1944, 1952, 1964, 1969, 1972, 1975, 1960, 1965, 1982, 1987, 1999, 2007] = true := by decide +kernel
theorem pm_ckl13 : pm_cks 13 pm_lk13.flatten [1134, 28, 1133, 1208, 1219, 1231, 1247, 1254, 1269, 1276, 1283, 1290, 1301, 1316, 1344, 1355, 30, 1376, 1377, 348, 1585, 365, 1592, 392, 1603, 396, 1607, 400, 1611, 408, 1615, 1130, 1627, 1363, 1205, 1642, 1216, 1672, 1228, 1676, 431, 1688, 492, 1692, 1244, 1696, 1251, 1700, 513, 1708, 1266, 1714, 563, 1718, 1273, 1722, 2015, 580, 1367, 594, 1726, 852, 1813, 928, 1852, 941, 1863, 945, 1867, 954, 1871, 1280, 1875, 967, 1883, 979, 1887, 983, 1899, 1287, 1915, 1298, 1923, 1028, 1927, 1313, 1932, 1341, 1948, 1033, 1956, 1058, 1978, 1067, 1983, 1352, 1991, 1071, 1995, 1084, 2003, 1114, 2011] = true := by decide +kernel
theorem pm_ckl14 : pm_cks 14 pm_lk14.flatten [849, 848] = true := by decide +kernel
theorem pm_ckl15 : pm_cks 15 pm_lk15.flatten [552, 553, 554] = true := by decide +kernel
theorem pm_ckl16 : pm_cks 16 pm_lk16.flatten [] = true := by decide +kernel
theorem pm_ckl17 : pm_cks 17 pm_lk17.flatten [661, 651, 746, 657, 647, 665] = true := by decide +kernel
theorem pm_ckl18 : pm_cks 18 pm_lk18.flatten [749, 672, 668, 671, 673] = true := by decide +kernel
theorem pm_link {own ix : Nat} {K : pm_K} (h : pm_get (pm_lnk own) ix = some K) : ∃ i, pm_ck own (ix, K) i = true := by
  obtain ⟨c, hc, hm⟩ := pm_get_mem h
  have hf : (ix, K) ∈ (pm_lnk own).flatten := List.mem_flatten.mpr ⟨c, hc, hm⟩
  match own, hf with
  | 0, hf => exact pm_cks_mem pm_ckl0 _ hf
  | 1, hf => exact pm_cks_mem pm_ckl1 _ hf
  | 2, hf => exact pm_cks_mem pm_ckl2 _ hf
  | 3, hf => exact pm_cks_mem pm_ckl3 _ hf
  | 4, hf => exact pm_cks_mem pm_ckl4 _ hf
  | 5, hf => exact pm_cks_mem pm_ckl5 _ hf
  | 6, hf => exact pm_cks_mem pm_ckl6 _ hf
  | 7, hf => exact pm_cks_mem pm_ckl7 _ hf
  | 8, hf => exact pm_cks_mem pm_ckl8 _ hf
  | 9, hf => exact pm_cks_mem pm_ckl9 _ hf
  | 10, hf => exact pm_cks_mem pm_ckl10 _ hf
  | 11, hf => exact pm_cks_mem pm_ckl11 _ hf
  | 12, hf => exact pm_cks_mem pm_ckl12 _ hf
  | 13, hf => exact pm_cks_mem pm_ckl13 _ hf
  | 14, hf => exact pm_cks_mem pm_ckl14 _ hf
  | 15, hf => exact pm_cks_mem pm_ckl15 _ hf
  | 16, hf => exact pm_cks_mem pm_ckl16 _ hf
  | 17, hf => exact pm_cks_mem pm_ckl17 _ hf
  | 18, hf => exact pm_cks_mem pm_ckl18 _ hf
  | j + 19, hf =>
    have e : pm_lnk (j + 19) = [] := rfl
    rw [e] at hf
    cases hf
end
section
/-! heads of the methods (positions printed by wip/tool/heads.py) -/
def pm_ckh (kd : Nat) (y : pm_Hd) (e : pm_M) (ps : Nat × Nat × Nat × Nat) : Bool :=
  (Nat.beq kd 0 || Nat.beq kd 14) || ((match tables_1[y.2.1]? with
    | some (.code y2 _ l2 r2) => decide (y2 = y.1) && (Nat.beq l2 e.2.1 && decide (r2 = y.2.2))
    | _ => false) && (!Nat.beq y.2.1 99999 && (decide (tables_1[ps.2.2.2]? = some (.initialized y.1.cls)) && (decide (y.1.cls = pm_nm e.2.2.1) && (pm_tyok e.2.2.2.1 y.2.2 && (Nat.ble e.2.1 80 && (Jvm.plainName y.1.cls && (decide (y.1.cls ≠ "java/lang/invoke/MethodHandle") && (decide (y.1.cls ≠ "java/lang/invoke/VarHandle") &&
    (match kd with
    | 1 => decide (tables_1[ps.2.1]? = some (.instanceMethod y.1)) && (decide (lw_tbl[ps.2.2.1]? = some (.selects y.1.cls y.1 y.1)) && decide ((parseMethodDescriptor y.1.desc).map (fun d => d.parameters.length + 1) = some e.1))
    | 2 => decide (tables_1[ps.2.1]? = some (.static y.1)) && decide ((parseMethodDescriptor y.1.desc).map (fun d => d.parameters.length) = some e.1)
    | _ => decide (tables_1[ps.2.1]? = some (.instanceMethod y.1)) && (decide (y.1.name = "<init>") && decide ((parseMethodDescriptor y.1.desc).map (fun d => d.parameters.length + 1) = some e.1))))))))))))
noncomputable def pm_hrow (q : Nat × Nat) (ps : Nat × Nat × Nat × Nat) : Bool := match pm_get pm_hds q.1, pm_ent q.1 with
  | some y, some e => pm_ckh q.2 y e ps
  | _, _ => false
noncomputable def pm_hrows (l : List (Nat × Nat)) (ps : List (Nat × Nat × Nat × Nat)) : Bool := match l, ps with
  | [], _ => true
  | q :: l, i :: ps => pm_hrow q i && pm_hrows l ps
  | _ :: _, [] => false
theorem pm_hrows_mem : ∀ {l : List (Nat × Nat)} {ps : List (Nat × Nat × Nat × Nat)}, pm_hrows l ps = true → ∀ q ∈ l, ∃ i, pm_hrow q i = true
  | [], _, _, q, hq => absurd hq List.not_mem_nil
  | a :: l, [], h, q, hq => by cases h
  | a :: l, i :: ps, h, q, hq => by
    have h2 : (pm_hrow a i && pm_hrows l ps) = true := h
    rw [Bool.and_eq_true] at h2
    rcases List.mem_cons.mp hq with rfl | hq
    · exact ⟨i, h2.1⟩
    · exact pm_hrows_mem h2.2 q hq
theorem pm_hc0 : pm_hrows (pm_kdt.getD 0 []) [(64, 63, 0, 3), (407, 405, 509, 3), (891, 889, 993, 3), (898, 896, 1000, 3), (1082, 1080, 1184, 3), (112, 111, 0, 7), (478, 476, 580, 7), (484, 483, 0, 7), (488, 486, 590, 7), (562, 560, 664, 7), (571, 569, 673, 7), (575, 573, 677, 7), (579, 577, 681, 7), (1066, 1064, 1168, 7), (1226, 1224, 1328, 7), (77, 76, 0, 4)] = true := by decide +kernel
theorem pm_hc1 : pm_hrows (pm_kdt.getD 1 []) [(383, 381, 485, 4), (387, 385, 489, 4), (391, 389, 493, 4), (415, 413, 517, 4), (419, 417, 521, 4), (423, 421, 525, 4), (430, 428, 532, 4), (507, 505, 609, 4), (528, 526, 630, 4), (863, 861, 965, 4), (878, 876, 980, 4), (1012, 1010, 1114, 4), (1016, 1014, 1118, 4), (1121, 1119, 1223, 4), (270, 269, 0, 13), (1095, 1093, 1197, 13)] = true := by decide +kernel
theorem pm_hc2 : pm_hrows (pm_kdt.getD 2 []) [(1100, 1098, 1202, 13), (1104, 1102, 1206, 13), (1108, 1106, 1210, 13), (250, 249, 0, 12), (961, 959, 1063, 12), (965, 963, 1067, 12), (974, 972, 1076, 12), (978, 976, 1080, 12), (1091, 1089, 1193, 12), (1112, 1110, 1214, 12), (1125, 1123, 1227, 12), (155, 154, 0, 9), (612, 610, 714, 9), (728, 727, 10, 9), (732, 731, 11, 9), (774, 773, 12, 9)] = true := by decide +kernel
theorem pm_hc3 : pm_hrows (pm_kdt.getD 3 []) [(783, 782, 13, 9), (795, 794, 14, 9), (799, 798, 15, 9), (803, 802, 16, 9), (807, 806, 17, 9), (811, 810, 18, 9), (817, 816, 19, 9), (820, 819, 0, 9), (825, 824, 20, 9), (40, 39, 0, 2), (364, 362, 466, 2), (376, 374, 478, 2), (450, 448, 552, 2), (458, 456, 560, 2), (499, 497, 601, 2), (503, 501, 605, 2)] = true := by decide +kernel
theorem pm_hc4 : pm_hrows (pm_kdt.getD 4 []) [(887, 885, 989, 2), (1008, 1006, 1110, 2), (1129, 1127, 1231, 2), (194, 193, 0, 10), (616, 614, 718, 10), (765, 763, 867, 10), (769, 767, 871, 10), (791, 789, 893, 10), (829, 827, 931, 10), (837, 835, 939, 10), (904, 902, 1006, 10), (908, 906, 1010, 10), (912, 911, 23, 10), (915, 914, 0, 10), (918, 917, 0, 10), (994, 992, 1096, 10)] = true := by decide +kernel
theorem pm_hc5 : pm_hrows (pm_kdt.getD 5 []) [(90, 89, 0, 6), (445, 443, 547, 6), (462, 460, 564, 6), (466, 464, 568, 6), (470, 468, 572, 6), (474, 472, 576, 6), (533, 531, 635, 6), (538, 536, 640, 6), (545, 544, 5, 6), (558, 557, 6, 6), (1045, 1043, 1147, 6), (1050, 1049, 33, 6), (1054, 1053, 34, 6), (1215, 1213, 1317, 6), (1261, 1259, 1363, 6), (1265, 1264, 38, 6)] = true := by decide +kernel
theorem pm_hc6 : pm_hrows (pm_kdt.getD 6 []) [(125, 124, 0, 8), (587, 585, 689, 8), (593, 591, 695, 8), (604, 602, 706, 8), (620, 618, 722, 8), (624, 622, 726, 8), (627, 626, 0, 8), (630, 629, 0, 8), (634, 633, 8, 8), (637, 636, 0, 8), (641, 640, 9, 8), (736, 734, 838, 8), (740, 738, 842, 8), (779, 777, 881, 8), (787, 785, 889, 8), (833, 831, 935, 8)] = true := by decide +kernel
theorem pm_hc7 : pm_hrows (pm_kdt.getD 7 []) [(223, 222, 0, 11), (859, 857, 961, 11), (871, 870, 21, 11), (882, 881, 22, 11), (921, 920, 0, 11), (927, 925, 1029, 11), (32, 31, 0, 1), (351, 349, 453, 1), (354, 353, 0, 1), (357, 356, 0, 1), (360, 359, 0, 1), (368, 366, 470, 1), (372, 371, 0, 1), (379, 378, 0, 1), (395, 393, 497, 1), (399, 397, 501, 1)] = true := by decide +kernel
theorem pm_hc8 : pm_hrows (pm_kdt.getD 8 []) [(403, 401, 505, 1), (411, 409, 513, 1), (434, 432, 536, 1), (437, 436, 0, 1), (441, 440, 1, 1), (454, 453, 2, 1), (495, 493, 597, 1), (512, 511, 3, 1), (516, 514, 618, 1), (519, 518, 0, 1), (524, 523, 4, 1), (566, 564, 668, 1), (583, 581, 685, 1), (597, 595, 699, 1), (600, 599, 0, 1), (608, 607, 7, 1)] = true := by decide +kernel
theorem pm_hc9 : pm_hrows (pm_kdt.getD 9 []) [(855, 853, 957, 1), (931, 929, 1033, 1), (935, 934, 24, 1), (939, 938, 25, 1), (944, 942, 1046, 1), (948, 946, 1050, 1), (953, 952, 26, 1), (957, 955, 1059, 1), (970, 968, 1072, 1), (982, 980, 1084, 1), (986, 984, 1088, 1), (990, 989, 27, 1), (998, 997, 28, 1), (1003, 1002, 29, 1), (1021, 1020, 30, 1), (1025, 1024, 31, 1)] = true := by decide +kernel
theorem pm_hc10 : pm_hrows (pm_kdt.getD 10 []) [(1031, 1029, 1133, 1), (1036, 1034, 1138, 1), (1040, 1039, 32, 1), (1061, 1059, 1163, 1), (1070, 1068, 1172, 1), (1074, 1072, 1176, 1), (1078, 1077, 35, 1), (1087, 1085, 1189, 1), (1117, 1115, 1219, 1), (1137, 1135, 1239, 1), (1203, 1202, 37, 1), (1211, 1209, 1313, 1), (1222, 1220, 1324, 1), (1234, 1232, 1336, 1), (1237, 1236, 0, 1), (1240, 1239, 0, 1)] = true := by decide +kernel
theorem pm_hc11 : pm_hrows (pm_kdt.getD 11 []) [(1243, 1242, 0, 1), (1250, 1248, 1352, 1), (1257, 1255, 1359, 1), (1272, 1270, 1374, 1), (1279, 1277, 1381, 1), (1286, 1284, 1388, 1), (1293, 1291, 1395, 1), (1297, 1296, 39, 1), (1304, 1302, 1406, 1), (1308, 1307, 40, 1), (1312, 1311, 41, 1), (1319, 1317, 1421, 1), (1323, 1322, 42, 1), (1327, 1326, 43, 1), (1331, 1330, 44, 1), (1335, 1334, 45, 1)] = true := by decide +kernel
theorem pm_hc12 : pm_hrows (pm_kdt.getD 12 []) [(1339, 1338, 46, 1), (1347, 1345, 1449, 1), (1351, 1350, 47, 1), (1358, 1356, 1460, 1), (1362, 1361, 48, 1), (1366, 1364, 1468, 14), (1370, 1368, 1472, 14), (1375, 1373, 49, 14), (1379, 1378, 0, 14), (1588, 1586, 1690, 14), (1591, 1590, 0, 14), (1595, 1593, 1697, 14), (1599, 1598, 50, 14), (1602, 1601, 0, 14), (1606, 1604, 1708, 14), (1610, 1608, 1712, 14)] = true := by decide +kernel
theorem pm_hc13 : pm_hrows (pm_kdt.getD 13 []) [(1614, 1612, 1716, 14), (1618, 1616, 1720, 14), (1622, 1621, 51, 14), (1626, 1625, 52, 14), (1630, 1628, 1732, 14), (1633, 1632, 0, 14), (1637, 1636, 53, 14), (1641, 1640, 54, 14), (1645, 1643, 1747, 14), (1648, 1647, 0, 14), (1652, 1651, 55, 14), (1656, 1655, 56, 14), (1660, 1659, 57, 14), (1664, 1663, 58, 14), (1668, 1667, 59, 14), (1671, 1670, 0, 14)] = true := by decide +kernel
theorem pm_hc14 : pm_hrows (pm_kdt.getD 14 []) [(1675, 1673, 1777, 14), (1679, 1677, 1781, 14), (1683, 1682, 60, 14), (1687, 1686, 61, 14), (1691, 1689, 1793, 14), (1695, 1693, 1797, 14), (1699, 1697, 1801, 14), (1703, 1701, 1805, 14), (1707, 1706, 62, 14), (1711, 1709, 1813, 14), (1717, 1715, 1819, 14), (1721, 1719, 1823, 14), (1725, 1723, 1827, 14), (1729, 1727, 1831, 14), (1733, 1732, 63, 14), (1736, 1735, 0, 14)] = true := by decide +kernel
theorem pm_hc15 : pm_hrows (pm_kdt.getD 15 []) [(1740, 1739, 0, 14), (1743, 1742, 0, 14), (1748, 1747, 0, 14), (1752, 1751, 64, 14), (1756, 1755, 65, 14), (1760, 1759, 66, 14), (1764, 1763, 67, 14), (1768, 1767, 68, 14), (1772, 1771, 69, 14), (1776, 1775, 70, 14), (1780, 1779, 71, 14), (1784, 1783, 72, 14), (1788, 1787, 73, 14), (1792, 1791, 74, 14), (1796, 1795, 75, 14), (1800, 1799, 76, 14)] = true := by decide +kernel
theorem pm_hc16 : pm_hrows (pm_kdt.getD 16 []) [(1804, 1803, 77, 14), (1808, 1807, 78, 14), (1812, 1811, 79, 14), (1816, 1814, 1918, 14), (1820, 1819, 80, 14), (1828, 1827, 81, 14), (1832, 1831, 82, 14), (1836, 1835, 83, 14), (1840, 1839, 84, 14), (1843, 1842, 0, 14), (1847, 1846, 85, 14), (1851, 1850, 86, 14), (1855, 1853, 1957, 14), (1858, 1857, 0, 14), (1862, 1861, 87, 14), (1866, 1864, 1968, 14)] = true := by decide +kernel
theorem pm_hc17 : pm_hrows (pm_kdt.getD 17 []) [(1870, 1868, 1972, 14), (1874, 1872, 1976, 14), (1878, 1876, 1980, 14), (1882, 1881, 88, 14), (1886, 1884, 1988, 14), (1890, 1888, 1992, 14), (1893, 1892, 0, 14), (1897, 1896, 89, 14), (1902, 1900, 2004, 14), (1906, 1905, 90, 14), (1910, 1909, 91, 14), (1914, 1913, 92, 14), (1918, 1916, 2020, 14), (1922, 1921, 93, 14), (1926, 1924, 2028, 14), (1930, 1928, 2032, 14)] = true := by decide +kernel
theorem pm_hc18 : pm_hrows (pm_kdt.getD 18 []) [(1935, 1933, 2037, 14), (1939, 1938, 94, 14), (1943, 1942, 95, 14), (1947, 1946, 96, 14), (1951, 1949, 2053, 14), (1955, 1954, 97, 14), (1959, 1957, 2061, 14), (1963, 1962, 98, 14), (1968, 1967, 99, 14), (1971, 1970, 0, 14), (1974, 1973, 0, 14), (1977, 1976, 0, 14), (1981, 1979, 2083, 14), (1986, 1984, 2088, 14), (1990, 1989, 100, 14), (1994, 1992, 2096, 14)] = true := by decide +kernel
theorem pm_hc19 : pm_hrows (pm_kdt.getD 19 []) [(1998, 1996, 2100, 14), (2002, 2001, 101, 14), (2006, 2004, 2108, 14), (2010, 2009, 102, 14), (2014, 2012, 2116, 14), (0, 0, 0, 0), (0, 0, 0, 0), (0, 0, 0, 0), (0, 0, 0, 0), (0, 0, 0, 0), (0, 0, 0, 0), (0, 0, 0, 0), (0, 0, 0, 0), (0, 0, 0, 0), (0, 0, 0, 0), (0, 0, 0, 0)] = true := by decide +kernel
theorem pm_hc20 : pm_hrows (pm_kdt.getD 20 []) [(0, 0, 0, 0), (0, 0, 0, 0), (0, 0, 0, 0), (0, 0, 0, 0), (81, 80, 0, 5), (840, 839, 0, 5), (551, 550, 0, 21), (1057, 1056, 0, 21), (491, 490, 0, 20), (646, 644, 748, 22), (650, 648, 752, 22), (654, 652, 756, 22), (660, 658, 762, 22), (664, 662, 766, 22), (693, 692, 0, 22), (745, 743, 847, 22)] = true := by decide +kernel
theorem pm_hc21 : pm_hrows (pm_kdt.getD 21 []) [(751, 750, 0, 22), (667, 666, 0, 23), (670, 669, 0, 23), (675, 674, 0, 23), (748, 747, 0, 23)] = true := by decide +kernel
theorem pm_head {m kd : Nat} (h : pm_get pm_kdt m = some kd) : ∃ y e ps, pm_get pm_hds m = some y ∧ pm_ent m = some e ∧ pm_ckh kd y e ps = true := by
  have key : ∃ i, pm_hrow (m, kd) i = true := by
    unfold pm_get at h
    cases hc : pm_nth pm_kdt (m / 16) with
    | none => rw [hc] at h; cases h
    | some c =>
      rw [hc] at h
      have hm : (m, kd) ∈ c := pm_fnd_mem h
      rw [pm_nth_eq] at hc
      have hd : pm_kdt.getD (m / 16) [] = c := by rw [List.getD_eq_getElem?_getD, hc]; rfl
      rw [← hd] at hm
      have hlt : m / 16 < 22 := (List.getElem?_eq_some_iff.mp hc).1
      match hz : m / 16 with
      | 0 => rw [hz] at hm; exact pm_hrows_mem pm_hc0 _ hm
      | 1 => rw [hz] at hm; exact pm_hrows_mem pm_hc1 _ hm
      | 2 => rw [hz] at hm; exact pm_hrows_mem pm_hc2 _ hm
      | 3 => rw [hz] at hm; exact pm_hrows_mem pm_hc3 _ hm
      | 4 => rw [hz] at hm; exact pm_hrows_mem pm_hc4 _ hm
      | 5 => rw [hz] at hm; exact pm_hrows_mem pm_hc5 _ hm
      | 6 => rw [hz] at hm; exact pm_hrows_mem pm_hc6 _ hm
      | 7 => rw [hz] at hm; exact pm_hrows_mem pm_hc7 _ hm
      | 8 => rw [hz] at hm; exact pm_hrows_mem pm_hc8 _ hm
      | 9 => rw [hz] at hm; exact pm_hrows_mem pm_hc9 _ hm
      | 10 => rw [hz] at hm; exact pm_hrows_mem pm_hc10 _ hm
      | 11 => rw [hz] at hm; exact pm_hrows_mem pm_hc11 _ hm
      | 12 => rw [hz] at hm; exact pm_hrows_mem pm_hc12 _ hm
      | 13 => rw [hz] at hm; exact pm_hrows_mem pm_hc13 _ hm
      | 14 => rw [hz] at hm; exact pm_hrows_mem pm_hc14 _ hm
      | 15 => rw [hz] at hm; exact pm_hrows_mem pm_hc15 _ hm
      | 16 => rw [hz] at hm; exact pm_hrows_mem pm_hc16 _ hm
      | 17 => rw [hz] at hm; exact pm_hrows_mem pm_hc17 _ hm
      | 18 => rw [hz] at hm; exact pm_hrows_mem pm_hc18 _ hm
      | 19 => rw [hz] at hm; exact pm_hrows_mem pm_hc19 _ hm
      | 20 => rw [hz] at hm; exact pm_hrows_mem pm_hc20 _ hm
      | 21 => rw [hz] at hm; exact pm_hrows_mem pm_hc21 _ hm
      | j + 22 => exact absurd hlt (by omega)
  obtain ⟨i, hi⟩ := key
  unfold pm_hrow at hi
  split at hi
  · rename_i y e h1 h2
    exact ⟨y, e, i, h1, h2, hi⟩
  · cases hi
end
section
/-! the code of the methods: what decode gives, what stands in it (wip/tool/heads.py) -/
/-- an instruction's length; 0: any -/
def pm_ln (i : Instr) : Nat := match i with
  | .bipush _ => 2
  | .sipush _ => 3
  | .ldc _ => 2
  | .ldc_w _ => 3
  | .ldc2_w _ => 3
  | .aload _ => 2
  | .iload _ => 2
  | .lload _ => 2
  | .astore _ => 2
  | .istore _ => 2
  | .lstore _ => 2
  | .iinc _ _ => 3
  | .ifCond _ _ => 3
  | .if_icmp _ _ => 3
  | .goto _ => 3
  | .tableswitch _ _ _ _ => 0
  | .lookupswitch _ _ => 0
  | .getstatic _ => 3
  | .getfield _ => 3
  | .putfield _ => 3
  | .new _ => 3
  | .newarray _ => 2
  | .anewarray _ => 3
  | .invokestatic _ => 3
  | .invokevirtual _ => 3
  | .invokespecial _ => 3
  | .checkcast _ => 3
  | .ifnull _ => 3
  | .ifnonnull _ => 3
  | _ => 1
/-- what may stand where: no store in the law's own frame; a final field in its constructor alone; a throw as javac writes it -/
noncomputable def pm_oki (m : Nat) (e : pm_M) (y : pm_Hd) (pc : Nat) (i : Instr) : Bool := match i with
  | .putfield ix => !Nat.beq m 309 && match pm_get (pm_lnk e.2.2.1) ix with
    | some K => match vwCl[K.2.1]? with
      | some r => !(r.2.1 K.2.2.1).2.2.2 || (Nat.beq K.2.1 e.2.2.1 && decide (y.1.name = "<init>"))
      | none => true
    | none => true
  | .iastore => !Nat.beq m 309
  | .bastore => !Nat.beq m 309
  | .castore => !Nat.beq m 309
  | .lastore => !Nat.beq m 309
  | .aastore => !Nat.beq m 309
  | .invokestatic ix => match pm_get (pm_lnk e.2.2.1) ix with
    | some K => !(Nat.beq K.1 12 && Nat.beq m 309)
    | none => true
  | .new ix => match pm_get (pm_lnk e.2.2.1) ix with
    | some K => !Nat.beq K.1 13 || (Nat.beq e.2.2.1 11 && (decide (pm_get e.2.2.2.2 (pc + 3) = some (.dup, 1)) && (decide (pm_get e.2.2.2.2 (pc + 4) = some (.invokespecial 184, 3)) && decide (pm_get e.2.2.2.2 (pc + 7) = some (.athrow, 1)))))
    | none => true
  | _ => true
noncomputable def pm_crow (m : Nat) (e : pm_M) (y : pm_Hd) (q : Nat × Instr × Nat) : Bool := cond (decide (decode (pm_byt y.2.1) q.1 = .ok q.2)) (cond (Nat.beq (pm_ln q.2.1) 0 || Nat.beq (pm_ln q.2.1) q.2.2) (pm_oki m e y q.1 q.2.1) false) false
noncomputable def pm_cm (q : Nat × pm_M) : Bool := match pm_get pm_hds q.1 with
  | some y => pm_all (fun c => pm_all (pm_crow q.1 q.2 y) c) q.2.2.2.2.2
  | none => false
end
section
/-! decode of each method (wip/tool/heads.py) -/
theorem pm_d0 : pm_cm (0, (pm_ent 0).getD (0, 0, 0, 0, [])) = true := by decide +kernel
theorem pm_d1 : pm_cm (1, (pm_ent 1).getD (0, 0, 0, 0, [])) = true := by decide +kernel
theorem pm_d2 : pm_cm (2, (pm_ent 2).getD (0, 0, 0, 0, [])) = true := by decide +kernel
theorem pm_d3 : pm_cm (3, (pm_ent 3).getD (0, 0, 0, 0, [])) = true := by decide +kernel
theorem pm_d4 : pm_cm (4, (pm_ent 4).getD (0, 0, 0, 0, [])) = true := by decide +kernel
theorem pm_d5 : pm_cm (5, (pm_ent 5).getD (0, 0, 0, 0, [])) = true := by decide +kernel
theorem pm_d6 : pm_cm (6, (pm_ent 6).getD (0, 0, 0, 0, [])) = true := by decide +kernel
theorem pm_d7 : pm_cm (7, (pm_ent 7).getD (0, 0, 0, 0, [])) = true := by decide +kernel
theorem pm_d8 : pm_cm (8, (pm_ent 8).getD (0, 0, 0, 0, [])) = true := by decide +kernel
theorem pm_d9 : pm_cm (9, (pm_ent 9).getD (0, 0, 0, 0, [])) = true := by decide +kernel
theorem pm_d10 : pm_cm (10, (pm_ent 10).getD (0, 0, 0, 0, [])) = true := by decide +kernel
theorem pm_d11 : pm_cm (11, (pm_ent 11).getD (0, 0, 0, 0, [])) = true := by decide +kernel
theorem pm_d12 : pm_cm (12, (pm_ent 12).getD (0, 0, 0, 0, [])) = true := by decide +kernel
theorem pm_d13 : pm_cm (13, (pm_ent 13).getD (0, 0, 0, 0, [])) = true := by decide +kernel
theorem pm_d14 : pm_cm (14, (pm_ent 14).getD (0, 0, 0, 0, [])) = true := by decide +kernel
theorem pm_d15 : pm_cm (15, (pm_ent 15).getD (0, 0, 0, 0, [])) = true := by decide +kernel
theorem pm_d16 : pm_cm (16, (pm_ent 16).getD (0, 0, 0, 0, [])) = true := by decide +kernel
theorem pm_d17 : pm_cm (17, (pm_ent 17).getD (0, 0, 0, 0, [])) = true := by decide +kernel
theorem pm_d18 : pm_cm (18, (pm_ent 18).getD (0, 0, 0, 0, [])) = true := by decide +kernel
theorem pm_d19 : pm_cm (19, (pm_ent 19).getD (0, 0, 0, 0, [])) = true := by decide +kernel
theorem pm_d20 : pm_cm (20, (pm_ent 20).getD (0, 0, 0, 0, [])) = true := by decide +kernel
theorem pm_d21 : pm_cm (21, (pm_ent 21).getD (0, 0, 0, 0, [])) = true := by decide +kernel
theorem pm_d22 : pm_cm (22, (pm_ent 22).getD (0, 0, 0, 0, [])) = true := by decide +kernel
theorem pm_d23 : pm_cm (23, (pm_ent 23).getD (0, 0, 0, 0, [])) = true := by decide +kernel
theorem pm_d24 : pm_cm (24, (pm_ent 24).getD (0, 0, 0, 0, [])) = true := by decide +kernel
theorem pm_d25 : pm_cm (25, (pm_ent 25).getD (0, 0, 0, 0, [])) = true := by decide +kernel
theorem pm_d26 : pm_cm (26, (pm_ent 26).getD (0, 0, 0, 0, [])) = true := by decide +kernel
theorem pm_d27 : pm_cm (27, (pm_ent 27).getD (0, 0, 0, 0, [])) = true := by decide +kernel
theorem pm_d28 : pm_cm (28, (pm_ent 28).getD (0, 0, 0, 0, [])) = true := by decide +kernel
theorem pm_d29 : pm_cm (29, (pm_ent 29).getD (0, 0, 0, 0, [])) = true := by decide +kernel
theorem pm_d30 : pm_cm (30, (pm_ent 30).getD (0, 0, 0, 0, [])) = true := by decide +kernel
theorem pm_d31 : pm_cm (31, (pm_ent 31).getD (0, 0, 0, 0, [])) = true := by decide +kernel
theorem pm_d32 : pm_cm (32, (pm_ent 32).getD (0, 0, 0, 0, [])) = true := by decide +kernel
theorem pm_d33 : pm_cm (33, (pm_ent 33).getD (0, 0, 0, 0, [])) = true := by decide +kernel
theorem pm_d34 : pm_cm (34, (pm_ent 34).getD (0, 0, 0, 0, [])) = true := by decide +kernel
theorem pm_d35 : pm_cm (35, (pm_ent 35).getD (0, 0, 0, 0, [])) = true := by decide +kernel
theorem pm_d36 : pm_cm (36, (pm_ent 36).getD (0, 0, 0, 0, [])) = true := by decide +kernel
theorem pm_d37 : pm_cm (37, (pm_ent 37).getD (0, 0, 0, 0, [])) = true := by decide +kernel
theorem pm_d38 : pm_cm (38, (pm_ent 38).getD (0, 0, 0, 0, [])) = true := by decide +kernel
theorem pm_d39 : pm_cm (39, (pm_ent 39).getD (0, 0, 0, 0, [])) = true := by decide +kernel
theorem pm_d40 : pm_cm (40, (pm_ent 40).getD (0, 0, 0, 0, [])) = true := by decide +kernel
theorem pm_d41 : pm_cm (41, (pm_ent 41).getD (0, 0, 0, 0, [])) = true := by decide +kernel
theorem pm_d42 : pm_cm (42, (pm_ent 42).getD (0, 0, 0, 0, [])) = true := by decide +kernel
theorem pm_d43 : pm_cm (43, (pm_ent 43).getD (0, 0, 0, 0, [])) = true := by decide +kernel
theorem pm_d44 : pm_cm (44, (pm_ent 44).getD (0, 0, 0, 0, [])) = true := by decide +kernel
theorem pm_d45 : pm_cm (45, (pm_ent 45).getD (0, 0, 0, 0, [])) = true := by decide +kernel
theorem pm_d46 : pm_cm (46, (pm_ent 46).getD (0, 0, 0, 0, [])) = true := by decide +kernel
theorem pm_d47 : pm_cm (47, (pm_ent 47).getD (0, 0, 0, 0, [])) = true := by decide +kernel
theorem pm_d48 : pm_cm (48, (pm_ent 48).getD (0, 0, 0, 0, [])) = true := by decide +kernel
theorem pm_d49 : pm_cm (49, (pm_ent 49).getD (0, 0, 0, 0, [])) = true := by decide +kernel
theorem pm_d50 : pm_cm (50, (pm_ent 50).getD (0, 0, 0, 0, [])) = true := by decide +kernel
theorem pm_d51 : pm_cm (51, (pm_ent 51).getD (0, 0, 0, 0, [])) = true := by decide +kernel
theorem pm_d52 : pm_cm (52, (pm_ent 52).getD (0, 0, 0, 0, [])) = true := by decide +kernel
theorem pm_d53 : pm_cm (53, (pm_ent 53).getD (0, 0, 0, 0, [])) = true := by decide +kernel
theorem pm_d54 : pm_cm (54, (pm_ent 54).getD (0, 0, 0, 0, [])) = true := by decide +kernel
theorem pm_d55 : pm_cm (55, (pm_ent 55).getD (0, 0, 0, 0, [])) = true := by decide +kernel
theorem pm_d56 : pm_cm (56, (pm_ent 56).getD (0, 0, 0, 0, [])) = true := by decide +kernel
theorem pm_d57 : pm_cm (57, (pm_ent 57).getD (0, 0, 0, 0, [])) = true := by decide +kernel
theorem pm_d58 : pm_cm (58, (pm_ent 58).getD (0, 0, 0, 0, [])) = true := by decide +kernel
theorem pm_d59 : pm_cm (59, (pm_ent 59).getD (0, 0, 0, 0, [])) = true := by decide +kernel
theorem pm_d60 : pm_cm (60, (pm_ent 60).getD (0, 0, 0, 0, [])) = true := by decide +kernel
theorem pm_d61 : pm_cm (61, (pm_ent 61).getD (0, 0, 0, 0, [])) = true := by decide +kernel
theorem pm_d62 : pm_cm (62, (pm_ent 62).getD (0, 0, 0, 0, [])) = true := by decide +kernel
theorem pm_d63 : pm_cm (63, (pm_ent 63).getD (0, 0, 0, 0, [])) = true := by decide +kernel
theorem pm_d64 : pm_cm (64, (pm_ent 64).getD (0, 0, 0, 0, [])) = true := by decide +kernel
theorem pm_d65 : pm_cm (65, (pm_ent 65).getD (0, 0, 0, 0, [])) = true := by decide +kernel
theorem pm_d66 : pm_cm (66, (pm_ent 66).getD (0, 0, 0, 0, [])) = true := by decide +kernel
theorem pm_d67 : pm_cm (67, (pm_ent 67).getD (0, 0, 0, 0, [])) = true := by decide +kernel
theorem pm_d68 : pm_cm (68, (pm_ent 68).getD (0, 0, 0, 0, [])) = true := by decide +kernel
theorem pm_d69 : pm_cm (69, (pm_ent 69).getD (0, 0, 0, 0, [])) = true := by decide +kernel
theorem pm_d70 : pm_cm (70, (pm_ent 70).getD (0, 0, 0, 0, [])) = true := by decide +kernel
theorem pm_d71 : pm_cm (71, (pm_ent 71).getD (0, 0, 0, 0, [])) = true := by decide +kernel
theorem pm_d72 : pm_cm (72, (pm_ent 72).getD (0, 0, 0, 0, [])) = true := by decide +kernel
theorem pm_d73 : pm_cm (73, (pm_ent 73).getD (0, 0, 0, 0, [])) = true := by decide +kernel
theorem pm_d74 : pm_cm (74, (pm_ent 74).getD (0, 0, 0, 0, [])) = true := by decide +kernel
theorem pm_d75 : pm_cm (75, (pm_ent 75).getD (0, 0, 0, 0, [])) = true := by decide +kernel
theorem pm_d76 : pm_cm (76, (pm_ent 76).getD (0, 0, 0, 0, [])) = true := by decide +kernel
theorem pm_d77 : pm_cm (77, (pm_ent 77).getD (0, 0, 0, 0, [])) = true := by decide +kernel
theorem pm_d78 : pm_cm (78, (pm_ent 78).getD (0, 0, 0, 0, [])) = true := by decide +kernel
theorem pm_d79 : pm_cm (79, (pm_ent 79).getD (0, 0, 0, 0, [])) = true := by decide +kernel
theorem pm_d80 : pm_cm (80, (pm_ent 80).getD (0, 0, 0, 0, [])) = true := by decide +kernel
theorem pm_d81 : pm_cm (81, (pm_ent 81).getD (0, 0, 0, 0, [])) = true := by decide +kernel
theorem pm_d82 : pm_cm (82, (pm_ent 82).getD (0, 0, 0, 0, [])) = true := by decide +kernel
theorem pm_d83 : pm_cm (83, (pm_ent 83).getD (0, 0, 0, 0, [])) = true := by decide +kernel
theorem pm_d84 : pm_cm (84, (pm_ent 84).getD (0, 0, 0, 0, [])) = true := by decide +kernel
theorem pm_d85 : pm_cm (85, (pm_ent 85).getD (0, 0, 0, 0, [])) = true := by decide +kernel
theorem pm_d86 : pm_cm (86, (pm_ent 86).getD (0, 0, 0, 0, [])) = true := by decide +kernel
theorem pm_d87 : pm_cm (87, (pm_ent 87).getD (0, 0, 0, 0, [])) = true := by decide +kernel
theorem pm_d88 : pm_cm (88, (pm_ent 88).getD (0, 0, 0, 0, [])) = true := by decide +kernel
theorem pm_d89 : pm_cm (89, (pm_ent 89).getD (0, 0, 0, 0, [])) = true := by decide +kernel
theorem pm_d90 : pm_cm (90, (pm_ent 90).getD (0, 0, 0, 0, [])) = true := by decide +kernel
theorem pm_d91 : pm_cm (91, (pm_ent 91).getD (0, 0, 0, 0, [])) = true := by decide +kernel
theorem pm_d92 : pm_cm (92, (pm_ent 92).getD (0, 0, 0, 0, [])) = true := by decide +kernel
theorem pm_d93 : pm_cm (93, (pm_ent 93).getD (0, 0, 0, 0, [])) = true := by decide +kernel
theorem pm_d94 : pm_cm (94, (pm_ent 94).getD (0, 0, 0, 0, [])) = true := by decide +kernel
theorem pm_d95 : pm_cm (95, (pm_ent 95).getD (0, 0, 0, 0, [])) = true := by decide +kernel
theorem pm_d96 : pm_cm (96, (pm_ent 96).getD (0, 0, 0, 0, [])) = true := by decide +kernel
theorem pm_d97 : pm_cm (97, (pm_ent 97).getD (0, 0, 0, 0, [])) = true := by decide +kernel
theorem pm_d98 : pm_cm (98, (pm_ent 98).getD (0, 0, 0, 0, [])) = true := by decide +kernel
theorem pm_d99 : pm_cm (99, (pm_ent 99).getD (0, 0, 0, 0, [])) = true := by decide +kernel
theorem pm_d100 : pm_cm (100, (pm_ent 100).getD (0, 0, 0, 0, [])) = true := by decide +kernel
theorem pm_d101 : pm_cm (101, (pm_ent 101).getD (0, 0, 0, 0, [])) = true := by decide +kernel
theorem pm_d102 : pm_cm (102, (pm_ent 102).getD (0, 0, 0, 0, [])) = true := by decide +kernel
theorem pm_d103 : pm_cm (103, (pm_ent 103).getD (0, 0, 0, 0, [])) = true := by decide +kernel
theorem pm_d104 : pm_cm (104, (pm_ent 104).getD (0, 0, 0, 0, [])) = true := by decide +kernel
theorem pm_d105 : pm_cm (105, (pm_ent 105).getD (0, 0, 0, 0, [])) = true := by decide +kernel
theorem pm_d106 : pm_cm (106, (pm_ent 106).getD (0, 0, 0, 0, [])) = true := by decide +kernel
theorem pm_d107 : pm_cm (107, (pm_ent 107).getD (0, 0, 0, 0, [])) = true := by decide +kernel
theorem pm_d108 : pm_cm (108, (pm_ent 108).getD (0, 0, 0, 0, [])) = true := by decide +kernel
theorem pm_d109 : pm_cm (109, (pm_ent 109).getD (0, 0, 0, 0, [])) = true := by decide +kernel
theorem pm_d110 : pm_cm (110, (pm_ent 110).getD (0, 0, 0, 0, [])) = true := by decide +kernel
theorem pm_d111 : pm_cm (111, (pm_ent 111).getD (0, 0, 0, 0, [])) = true := by decide +kernel
theorem pm_d112 : pm_cm (112, (pm_ent 112).getD (0, 0, 0, 0, [])) = true := by decide +kernel
theorem pm_d113 : pm_cm (113, (pm_ent 113).getD (0, 0, 0, 0, [])) = true := by decide +kernel
theorem pm_d114 : pm_cm (114, (pm_ent 114).getD (0, 0, 0, 0, [])) = true := by decide +kernel
theorem pm_d115 : pm_cm (115, (pm_ent 115).getD (0, 0, 0, 0, [])) = true := by decide +kernel
theorem pm_d116 : pm_cm (116, (pm_ent 116).getD (0, 0, 0, 0, [])) = true := by decide +kernel
theorem pm_d117 : pm_cm (117, (pm_ent 117).getD (0, 0, 0, 0, [])) = true := by decide +kernel
theorem pm_d324 : pm_cm (324, (pm_ent 324).getD (0, 0, 0, 0, [])) = true := by decide +kernel
theorem pm_d325 : pm_cm (325, (pm_ent 325).getD (0, 0, 0, 0, [])) = true := by decide +kernel
theorem pm_d326 : pm_cm (326, (pm_ent 326).getD (0, 0, 0, 0, [])) = true := by decide +kernel
theorem pm_d327 : pm_cm (327, (pm_ent 327).getD (0, 0, 0, 0, [])) = true := by decide +kernel
theorem pm_d328 : pm_cm (328, (pm_ent 328).getD (0, 0, 0, 0, [])) = true := by decide +kernel
theorem pm_d329 : pm_cm (329, (pm_ent 329).getD (0, 0, 0, 0, [])) = true := by decide +kernel
theorem pm_d330 : pm_cm (330, (pm_ent 330).getD (0, 0, 0, 0, [])) = true := by decide +kernel
theorem pm_d331 : pm_cm (331, (pm_ent 331).getD (0, 0, 0, 0, [])) = true := by decide +kernel
theorem pm_d332 : pm_cm (332, (pm_ent 332).getD (0, 0, 0, 0, [])) = true := by decide +kernel
theorem pm_d333 : pm_cm (333, (pm_ent 333).getD (0, 0, 0, 0, [])) = true := by decide +kernel
theorem pm_d334 : pm_cm (334, (pm_ent 334).getD (0, 0, 0, 0, [])) = true := by decide +kernel
theorem pm_d335 : pm_cm (335, (pm_ent 335).getD (0, 0, 0, 0, [])) = true := by decide +kernel
theorem pm_d336 : pm_cm (336, (pm_ent 336).getD (0, 0, 0, 0, [])) = true := by decide +kernel
theorem pm_d337 : pm_cm (337, (pm_ent 337).getD (0, 0, 0, 0, [])) = true := by decide +kernel
theorem pm_d338 : pm_cm (338, (pm_ent 338).getD (0, 0, 0, 0, [])) = true := by decide +kernel
theorem pm_d339 : pm_cm (339, (pm_ent 339).getD (0, 0, 0, 0, [])) = true := by decide +kernel
theorem pm_d340 : pm_cm (340, (pm_ent 340).getD (0, 0, 0, 0, [])) = true := by decide +kernel
end
section
/-! decode of each method (wip/tool/heads.py) -/
theorem pm_d118 : pm_cm (118, (pm_ent 118).getD (0, 0, 0, 0, [])) = true := by decide +kernel
theorem pm_d119 : pm_cm (119, (pm_ent 119).getD (0, 0, 0, 0, [])) = true := by decide +kernel
theorem pm_d120 : pm_cm (120, (pm_ent 120).getD (0, 0, 0, 0, [])) = true := by decide +kernel
theorem pm_d121 : pm_cm (121, (pm_ent 121).getD (0, 0, 0, 0, [])) = true := by decide +kernel
theorem pm_d122 : pm_cm (122, (pm_ent 122).getD (0, 0, 0, 0, [])) = true := by decide +kernel
theorem pm_d123 : pm_cm (123, (pm_ent 123).getD (0, 0, 0, 0, [])) = true := by decide +kernel
theorem pm_d124 : pm_cm (124, (pm_ent 124).getD (0, 0, 0, 0, [])) = true := by decide +kernel
theorem pm_d125 : pm_cm (125, (pm_ent 125).getD (0, 0, 0, 0, [])) = true := by decide +kernel
theorem pm_d126 : pm_cm (126, (pm_ent 126).getD (0, 0, 0, 0, [])) = true := by decide +kernel
theorem pm_d127 : pm_cm (127, (pm_ent 127).getD (0, 0, 0, 0, [])) = true := by decide +kernel
theorem pm_d128 : pm_cm (128, (pm_ent 128).getD (0, 0, 0, 0, [])) = true := by decide +kernel
theorem pm_d129 : pm_cm (129, (pm_ent 129).getD (0, 0, 0, 0, [])) = true := by decide +kernel
theorem pm_d130 : pm_cm (130, (pm_ent 130).getD (0, 0, 0, 0, [])) = true := by decide +kernel
theorem pm_d131 : pm_cm (131, (pm_ent 131).getD (0, 0, 0, 0, [])) = true := by decide +kernel
theorem pm_d132 : pm_cm (132, (pm_ent 132).getD (0, 0, 0, 0, [])) = true := by decide +kernel
theorem pm_d133 : pm_cm (133, (pm_ent 133).getD (0, 0, 0, 0, [])) = true := by decide +kernel
theorem pm_d134 : pm_cm (134, (pm_ent 134).getD (0, 0, 0, 0, [])) = true := by decide +kernel
theorem pm_d135 : pm_cm (135, (pm_ent 135).getD (0, 0, 0, 0, [])) = true := by decide +kernel
theorem pm_d136 : pm_cm (136, (pm_ent 136).getD (0, 0, 0, 0, [])) = true := by decide +kernel
theorem pm_d137 : pm_cm (137, (pm_ent 137).getD (0, 0, 0, 0, [])) = true := by decide +kernel
theorem pm_d138 : pm_cm (138, (pm_ent 138).getD (0, 0, 0, 0, [])) = true := by decide +kernel
theorem pm_d139 : pm_cm (139, (pm_ent 139).getD (0, 0, 0, 0, [])) = true := by decide +kernel
theorem pm_d140 : pm_cm (140, (pm_ent 140).getD (0, 0, 0, 0, [])) = true := by decide +kernel
theorem pm_d141 : pm_cm (141, (pm_ent 141).getD (0, 0, 0, 0, [])) = true := by decide +kernel
theorem pm_d142 : pm_cm (142, (pm_ent 142).getD (0, 0, 0, 0, [])) = true := by decide +kernel
theorem pm_d143 : pm_cm (143, (pm_ent 143).getD (0, 0, 0, 0, [])) = true := by decide +kernel
theorem pm_d144 : pm_cm (144, (pm_ent 144).getD (0, 0, 0, 0, [])) = true := by decide +kernel
theorem pm_d145 : pm_cm (145, (pm_ent 145).getD (0, 0, 0, 0, [])) = true := by decide +kernel
theorem pm_d146 : pm_cm (146, (pm_ent 146).getD (0, 0, 0, 0, [])) = true := by decide +kernel
theorem pm_d147 : pm_cm (147, (pm_ent 147).getD (0, 0, 0, 0, [])) = true := by decide +kernel
theorem pm_d148 : pm_cm (148, (pm_ent 148).getD (0, 0, 0, 0, [])) = true := by decide +kernel
theorem pm_d149 : pm_cm (149, (pm_ent 149).getD (0, 0, 0, 0, [])) = true := by decide +kernel
theorem pm_d150 : pm_cm (150, (pm_ent 150).getD (0, 0, 0, 0, [])) = true := by decide +kernel
theorem pm_d151 : pm_cm (151, (pm_ent 151).getD (0, 0, 0, 0, [])) = true := by decide +kernel
theorem pm_d152 : pm_cm (152, (pm_ent 152).getD (0, 0, 0, 0, [])) = true := by decide +kernel
theorem pm_d153 : pm_cm (153, (pm_ent 153).getD (0, 0, 0, 0, [])) = true := by decide +kernel
theorem pm_d154 : pm_cm (154, (pm_ent 154).getD (0, 0, 0, 0, [])) = true := by decide +kernel
theorem pm_d155 : pm_cm (155, (pm_ent 155).getD (0, 0, 0, 0, [])) = true := by decide +kernel
theorem pm_d156 : pm_cm (156, (pm_ent 156).getD (0, 0, 0, 0, [])) = true := by decide +kernel
theorem pm_d157 : pm_cm (157, (pm_ent 157).getD (0, 0, 0, 0, [])) = true := by decide +kernel
theorem pm_d158 : pm_cm (158, (pm_ent 158).getD (0, 0, 0, 0, [])) = true := by decide +kernel
theorem pm_d159 : pm_cm (159, (pm_ent 159).getD (0, 0, 0, 0, [])) = true := by decide +kernel
theorem pm_d160 : pm_cm (160, (pm_ent 160).getD (0, 0, 0, 0, [])) = true := by decide +kernel
theorem pm_d161 : pm_cm (161, (pm_ent 161).getD (0, 0, 0, 0, [])) = true := by decide +kernel
theorem pm_d162 : pm_cm (162, (pm_ent 162).getD (0, 0, 0, 0, [])) = true := by decide +kernel
theorem pm_d163 : pm_cm (163, (pm_ent 163).getD (0, 0, 0, 0, [])) = true := by decide +kernel
theorem pm_d164 : pm_cm (164, (pm_ent 164).getD (0, 0, 0, 0, [])) = true := by decide +kernel
theorem pm_d165 : pm_cm (165, (pm_ent 165).getD (0, 0, 0, 0, [])) = true := by decide +kernel
theorem pm_d166 : pm_cm (166, (pm_ent 166).getD (0, 0, 0, 0, [])) = true := by decide +kernel
theorem pm_d167 : pm_cm (167, (pm_ent 167).getD (0, 0, 0, 0, [])) = true := by decide +kernel
theorem pm_d168 : pm_cm (168, (pm_ent 168).getD (0, 0, 0, 0, [])) = true := by decide +kernel
theorem pm_d169 : pm_cm (169, (pm_ent 169).getD (0, 0, 0, 0, [])) = true := by decide +kernel
theorem pm_d170 : pm_cm (170, (pm_ent 170).getD (0, 0, 0, 0, [])) = true := by decide +kernel
theorem pm_d171 : pm_cm (171, (pm_ent 171).getD (0, 0, 0, 0, [])) = true := by decide +kernel
theorem pm_d172 : pm_cm (172, (pm_ent 172).getD (0, 0, 0, 0, [])) = true := by decide +kernel
theorem pm_d173 : pm_cm (173, (pm_ent 173).getD (0, 0, 0, 0, [])) = true := by decide +kernel
theorem pm_d174 : pm_cm (174, (pm_ent 174).getD (0, 0, 0, 0, [])) = true := by decide +kernel
theorem pm_d175 : pm_cm (175, (pm_ent 175).getD (0, 0, 0, 0, [])) = true := by decide +kernel
theorem pm_d176 : pm_cm (176, (pm_ent 176).getD (0, 0, 0, 0, [])) = true := by decide +kernel
theorem pm_d177 : pm_cm (177, (pm_ent 177).getD (0, 0, 0, 0, [])) = true := by decide +kernel
theorem pm_d178 : pm_cm (178, (pm_ent 178).getD (0, 0, 0, 0, [])) = true := by decide +kernel
theorem pm_d179 : pm_cm (179, (pm_ent 179).getD (0, 0, 0, 0, [])) = true := by decide +kernel
theorem pm_d180 : pm_cm (180, (pm_ent 180).getD (0, 0, 0, 0, [])) = true := by decide +kernel
theorem pm_d181 : pm_cm (181, (pm_ent 181).getD (0, 0, 0, 0, [])) = true := by decide +kernel
theorem pm_d182 : pm_cm (182, (pm_ent 182).getD (0, 0, 0, 0, [])) = true := by decide +kernel
theorem pm_d183 : pm_cm (183, (pm_ent 183).getD (0, 0, 0, 0, [])) = true := by decide +kernel
theorem pm_d184 : pm_cm (184, (pm_ent 184).getD (0, 0, 0, 0, [])) = true := by decide +kernel
theorem pm_d185 : pm_cm (185, (pm_ent 185).getD (0, 0, 0, 0, [])) = true := by decide +kernel
theorem pm_d186 : pm_cm (186, (pm_ent 186).getD (0, 0, 0, 0, [])) = true := by decide +kernel
theorem pm_d187 : pm_cm (187, (pm_ent 187).getD (0, 0, 0, 0, [])) = true := by decide +kernel
theorem pm_d188 : pm_cm (188, (pm_ent 188).getD (0, 0, 0, 0, [])) = true := by decide +kernel
theorem pm_d189 : pm_cm (189, (pm_ent 189).getD (0, 0, 0, 0, [])) = true := by decide +kernel
theorem pm_d190 : pm_cm (190, (pm_ent 190).getD (0, 0, 0, 0, [])) = true := by decide +kernel
theorem pm_d191 : pm_cm (191, (pm_ent 191).getD (0, 0, 0, 0, [])) = true := by decide +kernel
theorem pm_d192 : pm_cm (192, (pm_ent 192).getD (0, 0, 0, 0, [])) = true := by decide +kernel
theorem pm_d193 : pm_cm (193, (pm_ent 193).getD (0, 0, 0, 0, [])) = true := by decide +kernel
theorem pm_d194 : pm_cm (194, (pm_ent 194).getD (0, 0, 0, 0, [])) = true := by decide +kernel
theorem pm_d195 : pm_cm (195, (pm_ent 195).getD (0, 0, 0, 0, [])) = true := by decide +kernel
theorem pm_d196 : pm_cm (196, (pm_ent 196).getD (0, 0, 0, 0, [])) = true := by decide +kernel
end
section
/-! decode of each method (wip/tool/heads.py) -/
theorem pm_d197 : pm_cm (197, (pm_ent 197).getD (0, 0, 0, 0, [])) = true := by decide +kernel
theorem pm_d198 : pm_cm (198, (pm_ent 198).getD (0, 0, 0, 0, [])) = true := by decide +kernel
theorem pm_d199 : pm_cm (199, (pm_ent 199).getD (0, 0, 0, 0, [])) = true := by decide +kernel
theorem pm_d200 : pm_cm (200, (pm_ent 200).getD (0, 0, 0, 0, [])) = true := by decide +kernel
theorem pm_d201 : pm_cm (201, (pm_ent 201).getD (0, 0, 0, 0, [])) = true := by decide +kernel
theorem pm_d202 : pm_cm (202, (pm_ent 202).getD (0, 0, 0, 0, [])) = true := by decide +kernel
theorem pm_d203 : pm_cm (203, (pm_ent 203).getD (0, 0, 0, 0, [])) = true := by decide +kernel
theorem pm_d204 : pm_cm (204, (pm_ent 204).getD (0, 0, 0, 0, [])) = true := by decide +kernel
theorem pm_d205 : pm_cm (205, (pm_ent 205).getD (0, 0, 0, 0, [])) = true := by decide +kernel
theorem pm_d206 : pm_cm (206, (pm_ent 206).getD (0, 0, 0, 0, [])) = true := by decide +kernel
theorem pm_d207 : pm_cm (207, (pm_ent 207).getD (0, 0, 0, 0, [])) = true := by decide +kernel
theorem pm_d208 : pm_cm (208, (pm_ent 208).getD (0, 0, 0, 0, [])) = true := by decide +kernel
theorem pm_d209 : pm_cm (209, (pm_ent 209).getD (0, 0, 0, 0, [])) = true := by decide +kernel
theorem pm_d210 : pm_cm (210, (pm_ent 210).getD (0, 0, 0, 0, [])) = true := by decide +kernel
theorem pm_d211 : pm_cm (211, (pm_ent 211).getD (0, 0, 0, 0, [])) = true := by decide +kernel
theorem pm_d212 : pm_cm (212, (pm_ent 212).getD (0, 0, 0, 0, [])) = true := by decide +kernel
theorem pm_d213 : pm_cm (213, (pm_ent 213).getD (0, 0, 0, 0, [])) = true := by decide +kernel
theorem pm_d214 : pm_cm (214, (pm_ent 214).getD (0, 0, 0, 0, [])) = true := by decide +kernel
theorem pm_d215 : pm_cm (215, (pm_ent 215).getD (0, 0, 0, 0, [])) = true := by decide +kernel
theorem pm_d216 : pm_cm (216, (pm_ent 216).getD (0, 0, 0, 0, [])) = true := by decide +kernel
theorem pm_d217 : pm_cm (217, (pm_ent 217).getD (0, 0, 0, 0, [])) = true := by decide +kernel
theorem pm_d218 : pm_cm (218, (pm_ent 218).getD (0, 0, 0, 0, [])) = true := by decide +kernel
theorem pm_d219 : pm_cm (219, (pm_ent 219).getD (0, 0, 0, 0, [])) = true := by decide +kernel
theorem pm_d220 : pm_cm (220, (pm_ent 220).getD (0, 0, 0, 0, [])) = true := by decide +kernel
theorem pm_d221 : pm_cm (221, (pm_ent 221).getD (0, 0, 0, 0, [])) = true := by decide +kernel
theorem pm_d222 : pm_cm (222, (pm_ent 222).getD (0, 0, 0, 0, [])) = true := by decide +kernel
theorem pm_d223 : pm_cm (223, (pm_ent 223).getD (0, 0, 0, 0, [])) = true := by decide +kernel
theorem pm_d224 : pm_cm (224, (pm_ent 224).getD (0, 0, 0, 0, [])) = true := by decide +kernel
theorem pm_d225 : pm_cm (225, (pm_ent 225).getD (0, 0, 0, 0, [])) = true := by decide +kernel
theorem pm_d226 : pm_cm (226, (pm_ent 226).getD (0, 0, 0, 0, [])) = true := by decide +kernel
theorem pm_d227 : pm_cm (227, (pm_ent 227).getD (0, 0, 0, 0, [])) = true := by decide +kernel
theorem pm_d228 : pm_cm (228, (pm_ent 228).getD (0, 0, 0, 0, [])) = true := by decide +kernel
theorem pm_d229 : pm_cm (229, (pm_ent 229).getD (0, 0, 0, 0, [])) = true := by decide +kernel
theorem pm_d230 : pm_cm (230, (pm_ent 230).getD (0, 0, 0, 0, [])) = true := by decide +kernel
theorem pm_d231 : pm_cm (231, (pm_ent 231).getD (0, 0, 0, 0, [])) = true := by decide +kernel
theorem pm_d232 : pm_cm (232, (pm_ent 232).getD (0, 0, 0, 0, [])) = true := by decide +kernel
theorem pm_d233 : pm_cm (233, (pm_ent 233).getD (0, 0, 0, 0, [])) = true := by decide +kernel
theorem pm_d234 : pm_cm (234, (pm_ent 234).getD (0, 0, 0, 0, [])) = true := by decide +kernel
theorem pm_d235 : pm_cm (235, (pm_ent 235).getD (0, 0, 0, 0, [])) = true := by decide +kernel
theorem pm_d236 : pm_cm (236, (pm_ent 236).getD (0, 0, 0, 0, [])) = true := by decide +kernel
theorem pm_d237 : pm_cm (237, (pm_ent 237).getD (0, 0, 0, 0, [])) = true := by decide +kernel
theorem pm_d238 : pm_cm (238, (pm_ent 238).getD (0, 0, 0, 0, [])) = true := by decide +kernel
theorem pm_d239 : pm_cm (239, (pm_ent 239).getD (0, 0, 0, 0, [])) = true := by decide +kernel
theorem pm_d240 : pm_cm (240, (pm_ent 240).getD (0, 0, 0, 0, [])) = true := by decide +kernel
theorem pm_d241 : pm_cm (241, (pm_ent 241).getD (0, 0, 0, 0, [])) = true := by decide +kernel
theorem pm_d242 : pm_cm (242, (pm_ent 242).getD (0, 0, 0, 0, [])) = true := by decide +kernel
theorem pm_d243 : pm_cm (243, (pm_ent 243).getD (0, 0, 0, 0, [])) = true := by decide +kernel
theorem pm_d244 : pm_cm (244, (pm_ent 244).getD (0, 0, 0, 0, [])) = true := by decide +kernel
theorem pm_d245 : pm_cm (245, (pm_ent 245).getD (0, 0, 0, 0, [])) = true := by decide +kernel
theorem pm_d246 : pm_cm (246, (pm_ent 246).getD (0, 0, 0, 0, [])) = true := by decide +kernel
theorem pm_d247 : pm_cm (247, (pm_ent 247).getD (0, 0, 0, 0, [])) = true := by decide +kernel
theorem pm_d248 : pm_cm (248, (pm_ent 248).getD (0, 0, 0, 0, [])) = true := by decide +kernel
theorem pm_d249 : pm_cm (249, (pm_ent 249).getD (0, 0, 0, 0, [])) = true := by decide +kernel
theorem pm_d250 : pm_cm (250, (pm_ent 250).getD (0, 0, 0, 0, [])) = true := by decide +kernel
theorem pm_d251 : pm_cm (251, (pm_ent 251).getD (0, 0, 0, 0, [])) = true := by decide +kernel
theorem pm_d252 : pm_cm (252, (pm_ent 252).getD (0, 0, 0, 0, [])) = true := by decide +kernel
theorem pm_d253 : pm_cm (253, (pm_ent 253).getD (0, 0, 0, 0, [])) = true := by decide +kernel
theorem pm_d254 : pm_cm (254, (pm_ent 254).getD (0, 0, 0, 0, [])) = true := by decide +kernel
theorem pm_d255 : pm_cm (255, (pm_ent 255).getD (0, 0, 0, 0, [])) = true := by decide +kernel
theorem pm_d256 : pm_cm (256, (pm_ent 256).getD (0, 0, 0, 0, [])) = true := by decide +kernel
theorem pm_d257 : pm_cm (257, (pm_ent 257).getD (0, 0, 0, 0, [])) = true := by decide +kernel
theorem pm_d258 : pm_cm (258, (pm_ent 258).getD (0, 0, 0, 0, [])) = true := by decide +kernel
theorem pm_d259 : pm_cm (259, (pm_ent 259).getD (0, 0, 0, 0, [])) = true := by decide +kernel
theorem pm_d260 : pm_cm (260, (pm_ent 260).getD (0, 0, 0, 0, [])) = true := by decide +kernel
theorem pm_d261 : pm_cm (261, (pm_ent 261).getD (0, 0, 0, 0, [])) = true := by decide +kernel
theorem pm_d262 : pm_cm (262, (pm_ent 262).getD (0, 0, 0, 0, [])) = true := by decide +kernel
theorem pm_d263 : pm_cm (263, (pm_ent 263).getD (0, 0, 0, 0, [])) = true := by decide +kernel
theorem pm_d264 : pm_cm (264, (pm_ent 264).getD (0, 0, 0, 0, [])) = true := by decide +kernel
theorem pm_d265 : pm_cm (265, (pm_ent 265).getD (0, 0, 0, 0, [])) = true := by decide +kernel
theorem pm_d266 : pm_cm (266, (pm_ent 266).getD (0, 0, 0, 0, [])) = true := by decide +kernel
theorem pm_d267 : pm_cm (267, (pm_ent 267).getD (0, 0, 0, 0, [])) = true := by decide +kernel
theorem pm_d268 : pm_cm (268, (pm_ent 268).getD (0, 0, 0, 0, [])) = true := by decide +kernel
theorem pm_d269 : pm_cm (269, (pm_ent 269).getD (0, 0, 0, 0, [])) = true := by decide +kernel
theorem pm_d270 : pm_cm (270, (pm_ent 270).getD (0, 0, 0, 0, [])) = true := by decide +kernel
theorem pm_d271 : pm_cm (271, (pm_ent 271).getD (0, 0, 0, 0, [])) = true := by decide +kernel
theorem pm_d272 : pm_cm (272, (pm_ent 272).getD (0, 0, 0, 0, [])) = true := by decide +kernel
theorem pm_d273 : pm_cm (273, (pm_ent 273).getD (0, 0, 0, 0, [])) = true := by decide +kernel
theorem pm_d274 : pm_cm (274, (pm_ent 274).getD (0, 0, 0, 0, [])) = true := by decide +kernel
theorem pm_d275 : pm_cm (275, (pm_ent 275).getD (0, 0, 0, 0, [])) = true := by decide +kernel
theorem pm_d276 : pm_cm (276, (pm_ent 276).getD (0, 0, 0, 0, [])) = true := by decide +kernel
theorem pm_d277 : pm_cm (277, (pm_ent 277).getD (0, 0, 0, 0, [])) = true := by decide +kernel
theorem pm_d278 : pm_cm (278, (pm_ent 278).getD (0, 0, 0, 0, [])) = true := by decide +kernel
theorem pm_d279 : pm_cm (279, (pm_ent 279).getD (0, 0, 0, 0, [])) = true := by decide +kernel
theorem pm_d280 : pm_cm (280, (pm_ent 280).getD (0, 0, 0, 0, [])) = true := by decide +kernel
theorem pm_d281 : pm_cm (281, (pm_ent 281).getD (0, 0, 0, 0, [])) = true := by decide +kernel
theorem pm_d282 : pm_cm (282, (pm_ent 282).getD (0, 0, 0, 0, [])) = true := by decide +kernel
theorem pm_d283 : pm_cm (283, (pm_ent 283).getD (0, 0, 0, 0, [])) = true := by decide +kernel
theorem pm_d284 : pm_cm (284, (pm_ent 284).getD (0, 0, 0, 0, [])) = true := by decide +kernel
theorem pm_d285 : pm_cm (285, (pm_ent 285).getD (0, 0, 0, 0, [])) = true := by decide +kernel
theorem pm_d286 : pm_cm (286, (pm_ent 286).getD (0, 0, 0, 0, [])) = true := by decide +kernel
theorem pm_d287 : pm_cm (287, (pm_ent 287).getD (0, 0, 0, 0, [])) = true := by decide +kernel
theorem pm_d288 : pm_cm (288, (pm_ent 288).getD (0, 0, 0, 0, [])) = true := by decide +kernel
theorem pm_d289 : pm_cm (289, (pm_ent 289).getD (0, 0, 0, 0, [])) = true := by decide +kernel
theorem pm_d290 : pm_cm (290, (pm_ent 290).getD (0, 0, 0, 0, [])) = true := by decide +kernel
theorem pm_d291 : pm_cm (291, (pm_ent 291).getD (0, 0, 0, 0, [])) = true := by decide +kernel
theorem pm_d292 : pm_cm (292, (pm_ent 292).getD (0, 0, 0, 0, [])) = true := by decide +kernel
theorem pm_d293 : pm_cm (293, (pm_ent 293).getD (0, 0, 0, 0, [])) = true := by decide +kernel
theorem pm_d294 : pm_cm (294, (pm_ent 294).getD (0, 0, 0, 0, [])) = true := by decide +kernel
theorem pm_d295 : pm_cm (295, (pm_ent 295).getD (0, 0, 0, 0, [])) = true := by decide +kernel
theorem pm_d296 : pm_cm (296, (pm_ent 296).getD (0, 0, 0, 0, [])) = true := by decide +kernel
theorem pm_d297 : pm_cm (297, (pm_ent 297).getD (0, 0, 0, 0, [])) = true := by decide +kernel
theorem pm_d298 : pm_cm (298, (pm_ent 298).getD (0, 0, 0, 0, [])) = true := by decide +kernel
theorem pm_d299 : pm_cm (299, (pm_ent 299).getD (0, 0, 0, 0, [])) = true := by decide +kernel
theorem pm_d300 : pm_cm (300, (pm_ent 300).getD (0, 0, 0, 0, [])) = true := by decide +kernel
theorem pm_d301 : pm_cm (301, (pm_ent 301).getD (0, 0, 0, 0, [])) = true := by decide +kernel
theorem pm_d302 : pm_cm (302, (pm_ent 302).getD (0, 0, 0, 0, [])) = true := by decide +kernel
theorem pm_d303 : pm_cm (303, (pm_ent 303).getD (0, 0, 0, 0, [])) = true := by decide +kernel
theorem pm_d304 : pm_cm (304, (pm_ent 304).getD (0, 0, 0, 0, [])) = true := by decide +kernel
theorem pm_d305 : pm_cm (305, (pm_ent 305).getD (0, 0, 0, 0, [])) = true := by decide +kernel
theorem pm_d306 : pm_cm (306, (pm_ent 306).getD (0, 0, 0, 0, [])) = true := by decide +kernel
theorem pm_d307 : pm_cm (307, (pm_ent 307).getD (0, 0, 0, 0, [])) = true := by decide +kernel
theorem pm_d308 : pm_cm (308, (pm_ent 308).getD (0, 0, 0, 0, [])) = true := by decide +kernel
end
section
/-! decode of each method (wip/tool/heads.py) -/
theorem pm_all_groups {α : Type} {p : α → Bool} {l : List α} (k : Nat) (h : ∀ j, j < k → pm_all p ((l.drop (4 * j)).take 4) = true) (hl : l.length ≤ 4 * k) : pm_all p l = true := by
  rw [pm_all_eq, List.all_eq_true]
  intro x hx
  obtain ⟨i, hi, rfl⟩ := List.getElem_of_mem hx
  have hj := h (i / 4) (by omega)
  rw [pm_all_eq, List.all_eq_true] at hj
  refine hj _ (List.mem_of_getElem? (i := i % 4) ?_)
  rw [List.getElem?_take_of_lt (by omega), List.getElem?_drop, show 4 * (i / 4) + i % 4 = i by omega]
  exact List.getElem?_eq_getElem hi
abbrev pm_e309 : pm_M := (1, 8, 13, 1, pmc_309)
abbrev pm_y309 : pm_Hd := (⟨"RiverWageLaw", "law", "([I)Z"⟩, 99999, (some .boolean))
theorem pm_g309_0 : pm_all (fun c => pm_all (pm_crow 309 pm_e309 pm_y309) c) ((pmc_309.drop (4 * 0)).take 4) = true := by decide +kernel
theorem pm_g309_1 : pm_all (fun c => pm_all (pm_crow 309 pm_e309 pm_y309) c) ((pmc_309.drop (4 * 1)).take 4) = true := by decide +kernel
theorem pm_g309_2 : pm_all (fun c => pm_all (pm_crow 309 pm_e309 pm_y309) c) ((pmc_309.drop (4 * 2)).take 4) = true := by decide +kernel
theorem pm_g309_3 : pm_all (fun c => pm_all (pm_crow 309 pm_e309 pm_y309) c) ((pmc_309.drop (4 * 3)).take 4) = true := by decide +kernel
theorem pm_g309_4 : pm_all (fun c => pm_all (pm_crow 309 pm_e309 pm_y309) c) ((pmc_309.drop (4 * 4)).take 4) = true := by decide +kernel
theorem pm_g309_5 : pm_all (fun c => pm_all (pm_crow 309 pm_e309 pm_y309) c) ((pmc_309.drop (4 * 5)).take 4) = true := by decide +kernel
theorem pm_g309_6 : pm_all (fun c => pm_all (pm_crow 309 pm_e309 pm_y309) c) ((pmc_309.drop (4 * 6)).take 4) = true := by decide +kernel
theorem pm_g309_7 : pm_all (fun c => pm_all (pm_crow 309 pm_e309 pm_y309) c) ((pmc_309.drop (4 * 7)).take 4) = true := by decide +kernel
theorem pm_g309_8 : pm_all (fun c => pm_all (pm_crow 309 pm_e309 pm_y309) c) ((pmc_309.drop (4 * 8)).take 4) = true := by decide +kernel
theorem pm_g309_9 : pm_all (fun c => pm_all (pm_crow 309 pm_e309 pm_y309) c) ((pmc_309.drop (4 * 9)).take 4) = true := by decide +kernel
theorem pm_g309_10 : pm_all (fun c => pm_all (pm_crow 309 pm_e309 pm_y309) c) ((pmc_309.drop (4 * 10)).take 4) = true := by decide +kernel
theorem pm_g309_11 : pm_all (fun c => pm_all (pm_crow 309 pm_e309 pm_y309) c) ((pmc_309.drop (4 * 11)).take 4) = true := by decide +kernel
theorem pm_g309_12 : pm_all (fun c => pm_all (pm_crow 309 pm_e309 pm_y309) c) ((pmc_309.drop (4 * 12)).take 4) = true := by decide +kernel
theorem pm_g309_13 : pm_all (fun c => pm_all (pm_crow 309 pm_e309 pm_y309) c) ((pmc_309.drop (4 * 13)).take 4) = true := by decide +kernel
theorem pm_g309_14 : pm_all (fun c => pm_all (pm_crow 309 pm_e309 pm_y309) c) ((pmc_309.drop (4 * 14)).take 4) = true := by decide +kernel
theorem pm_g309_15 : pm_all (fun c => pm_all (pm_crow 309 pm_e309 pm_y309) c) ((pmc_309.drop (4 * 15)).take 4) = true := by decide +kernel
theorem pm_g309_16 : pm_all (fun c => pm_all (pm_crow 309 pm_e309 pm_y309) c) ((pmc_309.drop (4 * 16)).take 4) = true := by decide +kernel
theorem pm_g309_17 : pm_all (fun c => pm_all (pm_crow 309 pm_e309 pm_y309) c) ((pmc_309.drop (4 * 17)).take 4) = true := by decide +kernel
theorem pm_g309_18 : pm_all (fun c => pm_all (pm_crow 309 pm_e309 pm_y309) c) ((pmc_309.drop (4 * 18)).take 4) = true := by decide +kernel
theorem pm_g309_19 : pm_all (fun c => pm_all (pm_crow 309 pm_e309 pm_y309) c) ((pmc_309.drop (4 * 19)).take 4) = true := by decide +kernel
theorem pm_g309_20 : pm_all (fun c => pm_all (pm_crow 309 pm_e309 pm_y309) c) ((pmc_309.drop (4 * 20)).take 4) = true := by decide +kernel
theorem pm_g309_21 : pm_all (fun c => pm_all (pm_crow 309 pm_e309 pm_y309) c) ((pmc_309.drop (4 * 21)).take 4) = true := by decide +kernel
theorem pm_g309_22 : pm_all (fun c => pm_all (pm_crow 309 pm_e309 pm_y309) c) ((pmc_309.drop (4 * 22)).take 4) = true := by decide +kernel
theorem pm_g309_23 : pm_all (fun c => pm_all (pm_crow 309 pm_e309 pm_y309) c) ((pmc_309.drop (4 * 23)).take 4) = true := by decide +kernel
theorem pm_g309_24 : pm_all (fun c => pm_all (pm_crow 309 pm_e309 pm_y309) c) ((pmc_309.drop (4 * 24)).take 4) = true := by decide +kernel
theorem pm_g309_25 : pm_all (fun c => pm_all (pm_crow 309 pm_e309 pm_y309) c) ((pmc_309.drop (4 * 25)).take 4) = true := by decide +kernel
theorem pm_g309_26 : pm_all (fun c => pm_all (pm_crow 309 pm_e309 pm_y309) c) ((pmc_309.drop (4 * 26)).take 4) = true := by decide +kernel
theorem pm_g309_27 : pm_all (fun c => pm_all (pm_crow 309 pm_e309 pm_y309) c) ((pmc_309.drop (4 * 27)).take 4) = true := by decide +kernel
theorem pm_g309_28 : pm_all (fun c => pm_all (pm_crow 309 pm_e309 pm_y309) c) ((pmc_309.drop (4 * 28)).take 4) = true := by decide +kernel
theorem pm_g309_29 : pm_all (fun c => pm_all (pm_crow 309 pm_e309 pm_y309) c) ((pmc_309.drop (4 * 29)).take 4) = true := by decide +kernel
theorem pm_g309_30 : pm_all (fun c => pm_all (pm_crow 309 pm_e309 pm_y309) c) ((pmc_309.drop (4 * 30)).take 4) = true := by decide +kernel
theorem pm_g309_31 : pm_all (fun c => pm_all (pm_crow 309 pm_e309 pm_y309) c) ((pmc_309.drop (4 * 31)).take 4) = true := by decide +kernel
theorem pm_g309_32 : pm_all (fun c => pm_all (pm_crow 309 pm_e309 pm_y309) c) ((pmc_309.drop (4 * 32)).take 4) = true := by decide +kernel
theorem pm_g309_33 : pm_all (fun c => pm_all (pm_crow 309 pm_e309 pm_y309) c) ((pmc_309.drop (4 * 33)).take 4) = true := by decide +kernel
theorem pm_g309_34 : pm_all (fun c => pm_all (pm_crow 309 pm_e309 pm_y309) c) ((pmc_309.drop (4 * 34)).take 4) = true := by decide +kernel
theorem pm_g309_35 : pm_all (fun c => pm_all (pm_crow 309 pm_e309 pm_y309) c) ((pmc_309.drop (4 * 35)).take 4) = true := by decide +kernel
theorem pm_g309_36 : pm_all (fun c => pm_all (pm_crow 309 pm_e309 pm_y309) c) ((pmc_309.drop (4 * 36)).take 4) = true := by decide +kernel
theorem pm_g309_37 : pm_all (fun c => pm_all (pm_crow 309 pm_e309 pm_y309) c) ((pmc_309.drop (4 * 37)).take 4) = true := by decide +kernel
theorem pm_g309_38 : pm_all (fun c => pm_all (pm_crow 309 pm_e309 pm_y309) c) ((pmc_309.drop (4 * 38)).take 4) = true := by decide +kernel
theorem pm_g309_39 : pm_all (fun c => pm_all (pm_crow 309 pm_e309 pm_y309) c) ((pmc_309.drop (4 * 39)).take 4) = true := by decide +kernel
theorem pm_g309_40 : pm_all (fun c => pm_all (pm_crow 309 pm_e309 pm_y309) c) ((pmc_309.drop (4 * 40)).take 4) = true := by decide +kernel
theorem pm_g309_41 : pm_all (fun c => pm_all (pm_crow 309 pm_e309 pm_y309) c) ((pmc_309.drop (4 * 41)).take 4) = true := by decide +kernel
theorem pm_g309_42 : pm_all (fun c => pm_all (pm_crow 309 pm_e309 pm_y309) c) ((pmc_309.drop (4 * 42)).take 4) = true := by decide +kernel
theorem pm_d309 : pm_cm (309, (pm_ent 309).getD (0, 0, 0, 0, [])) = true := by
  have e1 : (pm_ent 309).getD (0, 0, 0, 0, []) = pm_e309 := rfl
  have e2 : pm_get pm_hds 309 = some pm_y309 := rfl
  rw [e1]
  unfold pm_cm
  dsimp only
  rw [e2]
  refine pm_all_groups 43 (fun j hj => ?_) (by decide +kernel)
  match j, hj with
  | 0, _ => exact pm_g309_0
  | 1, _ => exact pm_g309_1
  | 2, _ => exact pm_g309_2
  | 3, _ => exact pm_g309_3
  | 4, _ => exact pm_g309_4
  | 5, _ => exact pm_g309_5
  | 6, _ => exact pm_g309_6
  | 7, _ => exact pm_g309_7
  | 8, _ => exact pm_g309_8
  | 9, _ => exact pm_g309_9
  | 10, _ => exact pm_g309_10
  | 11, _ => exact pm_g309_11
  | 12, _ => exact pm_g309_12
  | 13, _ => exact pm_g309_13
  | 14, _ => exact pm_g309_14
  | 15, _ => exact pm_g309_15
  | 16, _ => exact pm_g309_16
  | 17, _ => exact pm_g309_17
  | 18, _ => exact pm_g309_18
  | 19, _ => exact pm_g309_19
  | 20, _ => exact pm_g309_20
  | 21, _ => exact pm_g309_21
  | 22, _ => exact pm_g309_22
  | 23, _ => exact pm_g309_23
  | 24, _ => exact pm_g309_24
  | 25, _ => exact pm_g309_25
  | 26, _ => exact pm_g309_26
  | 27, _ => exact pm_g309_27
  | 28, _ => exact pm_g309_28
  | 29, _ => exact pm_g309_29
  | 30, _ => exact pm_g309_30
  | 31, _ => exact pm_g309_31
  | 32, _ => exact pm_g309_32
  | 33, _ => exact pm_g309_33
  | 34, _ => exact pm_g309_34
  | 35, _ => exact pm_g309_35
  | 36, _ => exact pm_g309_36
  | 37, _ => exact pm_g309_37
  | 38, _ => exact pm_g309_38
  | 39, _ => exact pm_g309_39
  | 40, _ => exact pm_g309_40
  | 41, _ => exact pm_g309_41
  | 42, _ => exact pm_g309_42
  | n + 43, hj => exact absurd hj (by omega)
theorem pm_d310 : pm_cm (310, (pm_ent 310).getD (0, 0, 0, 0, [])) = true := by decide +kernel
theorem pm_d311 : pm_cm (311, (pm_ent 311).getD (0, 0, 0, 0, [])) = true := by decide +kernel
theorem pm_d312 : pm_cm (312, (pm_ent 312).getD (0, 0, 0, 0, [])) = true := by decide +kernel
theorem pm_d313 : pm_cm (313, (pm_ent 313).getD (0, 0, 0, 0, [])) = true := by decide +kernel
theorem pm_d314 : pm_cm (314, (pm_ent 314).getD (0, 0, 0, 0, [])) = true := by decide +kernel
theorem pm_d315 : pm_cm (315, (pm_ent 315).getD (0, 0, 0, 0, [])) = true := by decide +kernel
theorem pm_d316 : pm_cm (316, (pm_ent 316).getD (0, 0, 0, 0, [])) = true := by decide +kernel
theorem pm_d317 : pm_cm (317, (pm_ent 317).getD (0, 0, 0, 0, [])) = true := by decide +kernel
theorem pm_d318 : pm_cm (318, (pm_ent 318).getD (0, 0, 0, 0, [])) = true := by decide +kernel
theorem pm_d319 : pm_cm (319, (pm_ent 319).getD (0, 0, 0, 0, [])) = true := by decide +kernel
theorem pm_d320 : pm_cm (320, (pm_ent 320).getD (0, 0, 0, 0, [])) = true := by decide +kernel
theorem pm_d321 : pm_cm (321, (pm_ent 321).getD (0, 0, 0, 0, [])) = true := by decide +kernel
theorem pm_d322 : pm_cm (322, (pm_ent 322).getD (0, 0, 0, 0, [])) = true := by decide +kernel
theorem pm_d323 : pm_cm (323, (pm_ent 323).getD (0, 0, 0, 0, [])) = true := by decide +kernel
end
section
/-! all methods: their code is what decode gives (wip/tool/heads.py) -/
theorem pm_chk0 : ∀ q ∈ pm_mt.getD 0 [], pm_cm q = true := by
  intro q hq
  have hq : q ∈ ([(0, (pm_ent 0).getD (0, 0, 0, 0, [])), (1, (pm_ent 1).getD (0, 0, 0, 0, [])), (2, (pm_ent 2).getD (0, 0, 0, 0, [])), (3, (pm_ent 3).getD (0, 0, 0, 0, [])), (4, (pm_ent 4).getD (0, 0, 0, 0, [])), (5, (pm_ent 5).getD (0, 0, 0, 0, [])), (6, (pm_ent 6).getD (0, 0, 0, 0, [])), (7, (pm_ent 7).getD (0, 0, 0, 0, [])), (8, (pm_ent 8).getD (0, 0, 0, 0, [])), (9, (pm_ent 9).getD (0, 0, 0, 0, [])), (10, (pm_ent 10).getD (0, 0, 0, 0, [])), (11, (pm_ent 11).getD (0, 0, 0, 0, [])), (12, (pm_ent 12).getD (0, 0, 0, 0, [])), (13, (pm_ent 13).getD (0, 0, 0, 0, [])), (14, (pm_ent 14).getD (0, 0, 0, 0, [])), (15, (pm_ent 15).getD (0, 0, 0, 0, []))] : List (Nat × pm_M)) := hq
  simp only [List.mem_cons, List.not_mem_nil, or_false] at hq
  rcases hq with rfl | rfl | rfl | rfl | rfl | rfl | rfl | rfl | rfl | rfl | rfl | rfl | rfl | rfl | rfl | rfl
  · exact pm_d0
  · exact pm_d1
  · exact pm_d2
  · exact pm_d3
  · exact pm_d4
  · exact pm_d5
  · exact pm_d6
  · exact pm_d7
  · exact pm_d8
  · exact pm_d9
  · exact pm_d10
  · exact pm_d11
  · exact pm_d12
  · exact pm_d13
  · exact pm_d14
  · exact pm_d15
theorem pm_chk1 : ∀ q ∈ pm_mt.getD 1 [], pm_cm q = true := by
  intro q hq
  have hq : q ∈ ([(16, (pm_ent 16).getD (0, 0, 0, 0, [])), (17, (pm_ent 17).getD (0, 0, 0, 0, [])), (18, (pm_ent 18).getD (0, 0, 0, 0, [])), (19, (pm_ent 19).getD (0, 0, 0, 0, [])), (20, (pm_ent 20).getD (0, 0, 0, 0, [])), (21, (pm_ent 21).getD (0, 0, 0, 0, [])), (22, (pm_ent 22).getD (0, 0, 0, 0, [])), (23, (pm_ent 23).getD (0, 0, 0, 0, [])), (24, (pm_ent 24).getD (0, 0, 0, 0, [])), (25, (pm_ent 25).getD (0, 0, 0, 0, [])), (26, (pm_ent 26).getD (0, 0, 0, 0, [])), (27, (pm_ent 27).getD (0, 0, 0, 0, [])), (28, (pm_ent 28).getD (0, 0, 0, 0, [])), (29, (pm_ent 29).getD (0, 0, 0, 0, [])), (30, (pm_ent 30).getD (0, 0, 0, 0, [])), (31, (pm_ent 31).getD (0, 0, 0, 0, []))] : List (Nat × pm_M)) := hq
  simp only [List.mem_cons, List.not_mem_nil, or_false] at hq
  rcases hq with rfl | rfl | rfl | rfl | rfl | rfl | rfl | rfl | rfl | rfl | rfl | rfl | rfl | rfl | rfl | rfl
  · exact pm_d16
  · exact pm_d17
  · exact pm_d18
  · exact pm_d19
  · exact pm_d20
  · exact pm_d21
  · exact pm_d22
  · exact pm_d23
  · exact pm_d24
  · exact pm_d25
  · exact pm_d26
  · exact pm_d27
  · exact pm_d28
  · exact pm_d29
  · exact pm_d30
  · exact pm_d31
theorem pm_chk2 : ∀ q ∈ pm_mt.getD 2 [], pm_cm q = true := by
  intro q hq
  have hq : q ∈ ([(32, (pm_ent 32).getD (0, 0, 0, 0, [])), (33, (pm_ent 33).getD (0, 0, 0, 0, [])), (34, (pm_ent 34).getD (0, 0, 0, 0, [])), (35, (pm_ent 35).getD (0, 0, 0, 0, [])), (36, (pm_ent 36).getD (0, 0, 0, 0, [])), (37, (pm_ent 37).getD (0, 0, 0, 0, [])), (38, (pm_ent 38).getD (0, 0, 0, 0, [])), (39, (pm_ent 39).getD (0, 0, 0, 0, [])), (40, (pm_ent 40).getD (0, 0, 0, 0, [])), (41, (pm_ent 41).getD (0, 0, 0, 0, [])), (42, (pm_ent 42).getD (0, 0, 0, 0, [])), (43, (pm_ent 43).getD (0, 0, 0, 0, [])), (44, (pm_ent 44).getD (0, 0, 0, 0, [])), (45, (pm_ent 45).getD (0, 0, 0, 0, [])), (46, (pm_ent 46).getD (0, 0, 0, 0, [])), (47, (pm_ent 47).getD (0, 0, 0, 0, []))] : List (Nat × pm_M)) := hq
  simp only [List.mem_cons, List.not_mem_nil, or_false] at hq
  rcases hq with rfl | rfl | rfl | rfl | rfl | rfl | rfl | rfl | rfl | rfl | rfl | rfl | rfl | rfl | rfl | rfl
  · exact pm_d32
  · exact pm_d33
  · exact pm_d34
  · exact pm_d35
  · exact pm_d36
  · exact pm_d37
  · exact pm_d38
  · exact pm_d39
  · exact pm_d40
  · exact pm_d41
  · exact pm_d42
  · exact pm_d43
  · exact pm_d44
  · exact pm_d45
  · exact pm_d46
  · exact pm_d47
theorem pm_chk3 : ∀ q ∈ pm_mt.getD 3 [], pm_cm q = true := by
  intro q hq
  have hq : q ∈ ([(48, (pm_ent 48).getD (0, 0, 0, 0, [])), (49, (pm_ent 49).getD (0, 0, 0, 0, [])), (50, (pm_ent 50).getD (0, 0, 0, 0, [])), (51, (pm_ent 51).getD (0, 0, 0, 0, [])), (52, (pm_ent 52).getD (0, 0, 0, 0, [])), (53, (pm_ent 53).getD (0, 0, 0, 0, [])), (54, (pm_ent 54).getD (0, 0, 0, 0, [])), (55, (pm_ent 55).getD (0, 0, 0, 0, [])), (56, (pm_ent 56).getD (0, 0, 0, 0, [])), (57, (pm_ent 57).getD (0, 0, 0, 0, [])), (58, (pm_ent 58).getD (0, 0, 0, 0, [])), (59, (pm_ent 59).getD (0, 0, 0, 0, [])), (60, (pm_ent 60).getD (0, 0, 0, 0, [])), (61, (pm_ent 61).getD (0, 0, 0, 0, [])), (62, (pm_ent 62).getD (0, 0, 0, 0, [])), (63, (pm_ent 63).getD (0, 0, 0, 0, []))] : List (Nat × pm_M)) := hq
  simp only [List.mem_cons, List.not_mem_nil, or_false] at hq
  rcases hq with rfl | rfl | rfl | rfl | rfl | rfl | rfl | rfl | rfl | rfl | rfl | rfl | rfl | rfl | rfl | rfl
  · exact pm_d48
  · exact pm_d49
  · exact pm_d50
  · exact pm_d51
  · exact pm_d52
  · exact pm_d53
  · exact pm_d54
  · exact pm_d55
  · exact pm_d56
  · exact pm_d57
  · exact pm_d58
  · exact pm_d59
  · exact pm_d60
  · exact pm_d61
  · exact pm_d62
  · exact pm_d63
theorem pm_chk4 : ∀ q ∈ pm_mt.getD 4 [], pm_cm q = true := by
  intro q hq
  have hq : q ∈ ([(64, (pm_ent 64).getD (0, 0, 0, 0, [])), (65, (pm_ent 65).getD (0, 0, 0, 0, [])), (66, (pm_ent 66).getD (0, 0, 0, 0, [])), (67, (pm_ent 67).getD (0, 0, 0, 0, [])), (68, (pm_ent 68).getD (0, 0, 0, 0, [])), (69, (pm_ent 69).getD (0, 0, 0, 0, [])), (70, (pm_ent 70).getD (0, 0, 0, 0, [])), (71, (pm_ent 71).getD (0, 0, 0, 0, [])), (72, (pm_ent 72).getD (0, 0, 0, 0, [])), (73, (pm_ent 73).getD (0, 0, 0, 0, [])), (74, (pm_ent 74).getD (0, 0, 0, 0, [])), (75, (pm_ent 75).getD (0, 0, 0, 0, [])), (76, (pm_ent 76).getD (0, 0, 0, 0, [])), (77, (pm_ent 77).getD (0, 0, 0, 0, [])), (78, (pm_ent 78).getD (0, 0, 0, 0, [])), (79, (pm_ent 79).getD (0, 0, 0, 0, []))] : List (Nat × pm_M)) := hq
  simp only [List.mem_cons, List.not_mem_nil, or_false] at hq
  rcases hq with rfl | rfl | rfl | rfl | rfl | rfl | rfl | rfl | rfl | rfl | rfl | rfl | rfl | rfl | rfl | rfl
  · exact pm_d64
  · exact pm_d65
  · exact pm_d66
  · exact pm_d67
  · exact pm_d68
  · exact pm_d69
  · exact pm_d70
  · exact pm_d71
  · exact pm_d72
  · exact pm_d73
  · exact pm_d74
  · exact pm_d75
  · exact pm_d76
  · exact pm_d77
  · exact pm_d78
  · exact pm_d79
theorem pm_chk5 : ∀ q ∈ pm_mt.getD 5 [], pm_cm q = true := by
  intro q hq
  have hq : q ∈ ([(80, (pm_ent 80).getD (0, 0, 0, 0, [])), (81, (pm_ent 81).getD (0, 0, 0, 0, [])), (82, (pm_ent 82).getD (0, 0, 0, 0, [])), (83, (pm_ent 83).getD (0, 0, 0, 0, [])), (84, (pm_ent 84).getD (0, 0, 0, 0, [])), (85, (pm_ent 85).getD (0, 0, 0, 0, [])), (86, (pm_ent 86).getD (0, 0, 0, 0, [])), (87, (pm_ent 87).getD (0, 0, 0, 0, [])), (88, (pm_ent 88).getD (0, 0, 0, 0, [])), (89, (pm_ent 89).getD (0, 0, 0, 0, [])), (90, (pm_ent 90).getD (0, 0, 0, 0, [])), (91, (pm_ent 91).getD (0, 0, 0, 0, [])), (92, (pm_ent 92).getD (0, 0, 0, 0, [])), (93, (pm_ent 93).getD (0, 0, 0, 0, [])), (94, (pm_ent 94).getD (0, 0, 0, 0, [])), (95, (pm_ent 95).getD (0, 0, 0, 0, []))] : List (Nat × pm_M)) := hq
  simp only [List.mem_cons, List.not_mem_nil, or_false] at hq
  rcases hq with rfl | rfl | rfl | rfl | rfl | rfl | rfl | rfl | rfl | rfl | rfl | rfl | rfl | rfl | rfl | rfl
  · exact pm_d80
  · exact pm_d81
  · exact pm_d82
  · exact pm_d83
  · exact pm_d84
  · exact pm_d85
  · exact pm_d86
  · exact pm_d87
  · exact pm_d88
  · exact pm_d89
  · exact pm_d90
  · exact pm_d91
  · exact pm_d92
  · exact pm_d93
  · exact pm_d94
  · exact pm_d95
theorem pm_chk6 : ∀ q ∈ pm_mt.getD 6 [], pm_cm q = true := by
  intro q hq
  have hq : q ∈ ([(96, (pm_ent 96).getD (0, 0, 0, 0, [])), (97, (pm_ent 97).getD (0, 0, 0, 0, [])), (98, (pm_ent 98).getD (0, 0, 0, 0, [])), (99, (pm_ent 99).getD (0, 0, 0, 0, [])), (100, (pm_ent 100).getD (0, 0, 0, 0, [])), (101, (pm_ent 101).getD (0, 0, 0, 0, [])), (102, (pm_ent 102).getD (0, 0, 0, 0, [])), (103, (pm_ent 103).getD (0, 0, 0, 0, [])), (104, (pm_ent 104).getD (0, 0, 0, 0, [])), (105, (pm_ent 105).getD (0, 0, 0, 0, [])), (106, (pm_ent 106).getD (0, 0, 0, 0, [])), (107, (pm_ent 107).getD (0, 0, 0, 0, [])), (108, (pm_ent 108).getD (0, 0, 0, 0, [])), (109, (pm_ent 109).getD (0, 0, 0, 0, [])), (110, (pm_ent 110).getD (0, 0, 0, 0, [])), (111, (pm_ent 111).getD (0, 0, 0, 0, []))] : List (Nat × pm_M)) := hq
  simp only [List.mem_cons, List.not_mem_nil, or_false] at hq
  rcases hq with rfl | rfl | rfl | rfl | rfl | rfl | rfl | rfl | rfl | rfl | rfl | rfl | rfl | rfl | rfl | rfl
  · exact pm_d96
  · exact pm_d97
  · exact pm_d98
  · exact pm_d99
  · exact pm_d100
  · exact pm_d101
  · exact pm_d102
  · exact pm_d103
  · exact pm_d104
  · exact pm_d105
  · exact pm_d106
  · exact pm_d107
  · exact pm_d108
  · exact pm_d109
  · exact pm_d110
  · exact pm_d111
theorem pm_chk7 : ∀ q ∈ pm_mt.getD 7 [], pm_cm q = true := by
  intro q hq
  have hq : q ∈ ([(112, (pm_ent 112).getD (0, 0, 0, 0, [])), (113, (pm_ent 113).getD (0, 0, 0, 0, [])), (114, (pm_ent 114).getD (0, 0, 0, 0, [])), (115, (pm_ent 115).getD (0, 0, 0, 0, [])), (116, (pm_ent 116).getD (0, 0, 0, 0, [])), (117, (pm_ent 117).getD (0, 0, 0, 0, [])), (118, (pm_ent 118).getD (0, 0, 0, 0, [])), (119, (pm_ent 119).getD (0, 0, 0, 0, [])), (120, (pm_ent 120).getD (0, 0, 0, 0, [])), (121, (pm_ent 121).getD (0, 0, 0, 0, [])), (122, (pm_ent 122).getD (0, 0, 0, 0, [])), (123, (pm_ent 123).getD (0, 0, 0, 0, [])), (124, (pm_ent 124).getD (0, 0, 0, 0, [])), (125, (pm_ent 125).getD (0, 0, 0, 0, [])), (126, (pm_ent 126).getD (0, 0, 0, 0, [])), (127, (pm_ent 127).getD (0, 0, 0, 0, []))] : List (Nat × pm_M)) := hq
  simp only [List.mem_cons, List.not_mem_nil, or_false] at hq
  rcases hq with rfl | rfl | rfl | rfl | rfl | rfl | rfl | rfl | rfl | rfl | rfl | rfl | rfl | rfl | rfl | rfl
  · exact pm_d112
  · exact pm_d113
  · exact pm_d114
  · exact pm_d115
  · exact pm_d116
  · exact pm_d117
  · exact pm_d118
  · exact pm_d119
  · exact pm_d120
  · exact pm_d121
  · exact pm_d122
  · exact pm_d123
  · exact pm_d124
  · exact pm_d125
  · exact pm_d126
  · exact pm_d127
theorem pm_chk8 : ∀ q ∈ pm_mt.getD 8 [], pm_cm q = true := by
  intro q hq
  have hq : q ∈ ([(128, (pm_ent 128).getD (0, 0, 0, 0, [])), (129, (pm_ent 129).getD (0, 0, 0, 0, [])), (130, (pm_ent 130).getD (0, 0, 0, 0, [])), (131, (pm_ent 131).getD (0, 0, 0, 0, [])), (132, (pm_ent 132).getD (0, 0, 0, 0, [])), (133, (pm_ent 133).getD (0, 0, 0, 0, [])), (134, (pm_ent 134).getD (0, 0, 0, 0, [])), (135, (pm_ent 135).getD (0, 0, 0, 0, [])), (136, (pm_ent 136).getD (0, 0, 0, 0, [])), (137, (pm_ent 137).getD (0, 0, 0, 0, [])), (138, (pm_ent 138).getD (0, 0, 0, 0, [])), (139, (pm_ent 139).getD (0, 0, 0, 0, [])), (140, (pm_ent 140).getD (0, 0, 0, 0, [])), (141, (pm_ent 141).getD (0, 0, 0, 0, [])), (142, (pm_ent 142).getD (0, 0, 0, 0, [])), (143, (pm_ent 143).getD (0, 0, 0, 0, []))] : List (Nat × pm_M)) := hq
  simp only [List.mem_cons, List.not_mem_nil, or_false] at hq
  rcases hq with rfl | rfl | rfl | rfl | rfl | rfl | rfl | rfl | rfl | rfl | rfl | rfl | rfl | rfl | rfl | rfl
  · exact pm_d128
  · exact pm_d129
  · exact pm_d130
  · exact pm_d131
  · exact pm_d132
  · exact pm_d133
  · exact pm_d134
  · exact pm_d135
  · exact pm_d136
  · exact pm_d137
  · exact pm_d138
  · exact pm_d139
  · exact pm_d140
  · exact pm_d141
  · exact pm_d142
  · exact pm_d143
theorem pm_chk9 : ∀ q ∈ pm_mt.getD 9 [], pm_cm q = true := by
  intro q hq
  have hq : q ∈ ([(144, (pm_ent 144).getD (0, 0, 0, 0, [])), (145, (pm_ent 145).getD (0, 0, 0, 0, [])), (146, (pm_ent 146).getD (0, 0, 0, 0, [])), (147, (pm_ent 147).getD (0, 0, 0, 0, [])), (148, (pm_ent 148).getD (0, 0, 0, 0, [])), (149, (pm_ent 149).getD (0, 0, 0, 0, [])), (150, (pm_ent 150).getD (0, 0, 0, 0, [])), (151, (pm_ent 151).getD (0, 0, 0, 0, [])), (152, (pm_ent 152).getD (0, 0, 0, 0, [])), (153, (pm_ent 153).getD (0, 0, 0, 0, [])), (154, (pm_ent 154).getD (0, 0, 0, 0, [])), (155, (pm_ent 155).getD (0, 0, 0, 0, [])), (156, (pm_ent 156).getD (0, 0, 0, 0, [])), (157, (pm_ent 157).getD (0, 0, 0, 0, [])), (158, (pm_ent 158).getD (0, 0, 0, 0, [])), (159, (pm_ent 159).getD (0, 0, 0, 0, []))] : List (Nat × pm_M)) := hq
  simp only [List.mem_cons, List.not_mem_nil, or_false] at hq
  rcases hq with rfl | rfl | rfl | rfl | rfl | rfl | rfl | rfl | rfl | rfl | rfl | rfl | rfl | rfl | rfl | rfl
  · exact pm_d144
  · exact pm_d145
  · exact pm_d146
  · exact pm_d147
  · exact pm_d148
  · exact pm_d149
  · exact pm_d150
  · exact pm_d151
  · exact pm_d152
  · exact pm_d153
  · exact pm_d154
  · exact pm_d155
  · exact pm_d156
  · exact pm_d157
  · exact pm_d158
  · exact pm_d159
theorem pm_chk10 : ∀ q ∈ pm_mt.getD 10 [], pm_cm q = true := by
  intro q hq
  have hq : q ∈ ([(160, (pm_ent 160).getD (0, 0, 0, 0, [])), (161, (pm_ent 161).getD (0, 0, 0, 0, [])), (162, (pm_ent 162).getD (0, 0, 0, 0, [])), (163, (pm_ent 163).getD (0, 0, 0, 0, [])), (164, (pm_ent 164).getD (0, 0, 0, 0, [])), (165, (pm_ent 165).getD (0, 0, 0, 0, [])), (166, (pm_ent 166).getD (0, 0, 0, 0, [])), (167, (pm_ent 167).getD (0, 0, 0, 0, [])), (168, (pm_ent 168).getD (0, 0, 0, 0, [])), (169, (pm_ent 169).getD (0, 0, 0, 0, [])), (170, (pm_ent 170).getD (0, 0, 0, 0, [])), (171, (pm_ent 171).getD (0, 0, 0, 0, [])), (172, (pm_ent 172).getD (0, 0, 0, 0, [])), (173, (pm_ent 173).getD (0, 0, 0, 0, [])), (174, (pm_ent 174).getD (0, 0, 0, 0, [])), (175, (pm_ent 175).getD (0, 0, 0, 0, []))] : List (Nat × pm_M)) := hq
  simp only [List.mem_cons, List.not_mem_nil, or_false] at hq
  rcases hq with rfl | rfl | rfl | rfl | rfl | rfl | rfl | rfl | rfl | rfl | rfl | rfl | rfl | rfl | rfl | rfl
  · exact pm_d160
  · exact pm_d161
  · exact pm_d162
  · exact pm_d163
  · exact pm_d164
  · exact pm_d165
  · exact pm_d166
  · exact pm_d167
  · exact pm_d168
  · exact pm_d169
  · exact pm_d170
  · exact pm_d171
  · exact pm_d172
  · exact pm_d173
  · exact pm_d174
  · exact pm_d175
theorem pm_chk11 : ∀ q ∈ pm_mt.getD 11 [], pm_cm q = true := by
  intro q hq
  have hq : q ∈ ([(176, (pm_ent 176).getD (0, 0, 0, 0, [])), (177, (pm_ent 177).getD (0, 0, 0, 0, [])), (178, (pm_ent 178).getD (0, 0, 0, 0, [])), (179, (pm_ent 179).getD (0, 0, 0, 0, [])), (180, (pm_ent 180).getD (0, 0, 0, 0, [])), (181, (pm_ent 181).getD (0, 0, 0, 0, [])), (182, (pm_ent 182).getD (0, 0, 0, 0, [])), (183, (pm_ent 183).getD (0, 0, 0, 0, [])), (184, (pm_ent 184).getD (0, 0, 0, 0, [])), (185, (pm_ent 185).getD (0, 0, 0, 0, [])), (186, (pm_ent 186).getD (0, 0, 0, 0, [])), (187, (pm_ent 187).getD (0, 0, 0, 0, [])), (188, (pm_ent 188).getD (0, 0, 0, 0, [])), (189, (pm_ent 189).getD (0, 0, 0, 0, [])), (190, (pm_ent 190).getD (0, 0, 0, 0, [])), (191, (pm_ent 191).getD (0, 0, 0, 0, []))] : List (Nat × pm_M)) := hq
  simp only [List.mem_cons, List.not_mem_nil, or_false] at hq
  rcases hq with rfl | rfl | rfl | rfl | rfl | rfl | rfl | rfl | rfl | rfl | rfl | rfl | rfl | rfl | rfl | rfl
  · exact pm_d176
  · exact pm_d177
  · exact pm_d178
  · exact pm_d179
  · exact pm_d180
  · exact pm_d181
  · exact pm_d182
  · exact pm_d183
  · exact pm_d184
  · exact pm_d185
  · exact pm_d186
  · exact pm_d187
  · exact pm_d188
  · exact pm_d189
  · exact pm_d190
  · exact pm_d191
theorem pm_chk12 : ∀ q ∈ pm_mt.getD 12 [], pm_cm q = true := by
  intro q hq
  have hq : q ∈ ([(192, (pm_ent 192).getD (0, 0, 0, 0, [])), (193, (pm_ent 193).getD (0, 0, 0, 0, [])), (194, (pm_ent 194).getD (0, 0, 0, 0, [])), (195, (pm_ent 195).getD (0, 0, 0, 0, [])), (196, (pm_ent 196).getD (0, 0, 0, 0, [])), (197, (pm_ent 197).getD (0, 0, 0, 0, [])), (198, (pm_ent 198).getD (0, 0, 0, 0, [])), (199, (pm_ent 199).getD (0, 0, 0, 0, [])), (200, (pm_ent 200).getD (0, 0, 0, 0, [])), (201, (pm_ent 201).getD (0, 0, 0, 0, [])), (202, (pm_ent 202).getD (0, 0, 0, 0, [])), (203, (pm_ent 203).getD (0, 0, 0, 0, [])), (204, (pm_ent 204).getD (0, 0, 0, 0, [])), (205, (pm_ent 205).getD (0, 0, 0, 0, [])), (206, (pm_ent 206).getD (0, 0, 0, 0, [])), (207, (pm_ent 207).getD (0, 0, 0, 0, []))] : List (Nat × pm_M)) := hq
  simp only [List.mem_cons, List.not_mem_nil, or_false] at hq
  rcases hq with rfl | rfl | rfl | rfl | rfl | rfl | rfl | rfl | rfl | rfl | rfl | rfl | rfl | rfl | rfl | rfl
  · exact pm_d192
  · exact pm_d193
  · exact pm_d194
  · exact pm_d195
  · exact pm_d196
  · exact pm_d197
  · exact pm_d198
  · exact pm_d199
  · exact pm_d200
  · exact pm_d201
  · exact pm_d202
  · exact pm_d203
  · exact pm_d204
  · exact pm_d205
  · exact pm_d206
  · exact pm_d207
theorem pm_chk13 : ∀ q ∈ pm_mt.getD 13 [], pm_cm q = true := by
  intro q hq
  have hq : q ∈ ([(208, (pm_ent 208).getD (0, 0, 0, 0, [])), (209, (pm_ent 209).getD (0, 0, 0, 0, [])), (210, (pm_ent 210).getD (0, 0, 0, 0, [])), (211, (pm_ent 211).getD (0, 0, 0, 0, [])), (212, (pm_ent 212).getD (0, 0, 0, 0, [])), (213, (pm_ent 213).getD (0, 0, 0, 0, [])), (214, (pm_ent 214).getD (0, 0, 0, 0, [])), (215, (pm_ent 215).getD (0, 0, 0, 0, [])), (216, (pm_ent 216).getD (0, 0, 0, 0, [])), (217, (pm_ent 217).getD (0, 0, 0, 0, [])), (218, (pm_ent 218).getD (0, 0, 0, 0, [])), (219, (pm_ent 219).getD (0, 0, 0, 0, [])), (220, (pm_ent 220).getD (0, 0, 0, 0, [])), (221, (pm_ent 221).getD (0, 0, 0, 0, [])), (222, (pm_ent 222).getD (0, 0, 0, 0, [])), (223, (pm_ent 223).getD (0, 0, 0, 0, []))] : List (Nat × pm_M)) := hq
  simp only [List.mem_cons, List.not_mem_nil, or_false] at hq
  rcases hq with rfl | rfl | rfl | rfl | rfl | rfl | rfl | rfl | rfl | rfl | rfl | rfl | rfl | rfl | rfl | rfl
  · exact pm_d208
  · exact pm_d209
  · exact pm_d210
  · exact pm_d211
  · exact pm_d212
  · exact pm_d213
  · exact pm_d214
  · exact pm_d215
  · exact pm_d216
  · exact pm_d217
  · exact pm_d218
  · exact pm_d219
  · exact pm_d220
  · exact pm_d221
  · exact pm_d222
  · exact pm_d223
theorem pm_chk14 : ∀ q ∈ pm_mt.getD 14 [], pm_cm q = true := by
  intro q hq
  have hq : q ∈ ([(224, (pm_ent 224).getD (0, 0, 0, 0, [])), (225, (pm_ent 225).getD (0, 0, 0, 0, [])), (226, (pm_ent 226).getD (0, 0, 0, 0, [])), (227, (pm_ent 227).getD (0, 0, 0, 0, [])), (228, (pm_ent 228).getD (0, 0, 0, 0, [])), (229, (pm_ent 229).getD (0, 0, 0, 0, [])), (230, (pm_ent 230).getD (0, 0, 0, 0, [])), (231, (pm_ent 231).getD (0, 0, 0, 0, [])), (232, (pm_ent 232).getD (0, 0, 0, 0, [])), (233, (pm_ent 233).getD (0, 0, 0, 0, [])), (234, (pm_ent 234).getD (0, 0, 0, 0, [])), (235, (pm_ent 235).getD (0, 0, 0, 0, [])), (236, (pm_ent 236).getD (0, 0, 0, 0, [])), (237, (pm_ent 237).getD (0, 0, 0, 0, [])), (238, (pm_ent 238).getD (0, 0, 0, 0, [])), (239, (pm_ent 239).getD (0, 0, 0, 0, []))] : List (Nat × pm_M)) := hq
  simp only [List.mem_cons, List.not_mem_nil, or_false] at hq
  rcases hq with rfl | rfl | rfl | rfl | rfl | rfl | rfl | rfl | rfl | rfl | rfl | rfl | rfl | rfl | rfl | rfl
  · exact pm_d224
  · exact pm_d225
  · exact pm_d226
  · exact pm_d227
  · exact pm_d228
  · exact pm_d229
  · exact pm_d230
  · exact pm_d231
  · exact pm_d232
  · exact pm_d233
  · exact pm_d234
  · exact pm_d235
  · exact pm_d236
  · exact pm_d237
  · exact pm_d238
  · exact pm_d239
theorem pm_chk15 : ∀ q ∈ pm_mt.getD 15 [], pm_cm q = true := by
  intro q hq
  have hq : q ∈ ([(240, (pm_ent 240).getD (0, 0, 0, 0, [])), (241, (pm_ent 241).getD (0, 0, 0, 0, [])), (242, (pm_ent 242).getD (0, 0, 0, 0, [])), (243, (pm_ent 243).getD (0, 0, 0, 0, [])), (244, (pm_ent 244).getD (0, 0, 0, 0, [])), (245, (pm_ent 245).getD (0, 0, 0, 0, [])), (246, (pm_ent 246).getD (0, 0, 0, 0, [])), (247, (pm_ent 247).getD (0, 0, 0, 0, [])), (248, (pm_ent 248).getD (0, 0, 0, 0, [])), (249, (pm_ent 249).getD (0, 0, 0, 0, [])), (250, (pm_ent 250).getD (0, 0, 0, 0, [])), (251, (pm_ent 251).getD (0, 0, 0, 0, [])), (252, (pm_ent 252).getD (0, 0, 0, 0, [])), (253, (pm_ent 253).getD (0, 0, 0, 0, [])), (254, (pm_ent 254).getD (0, 0, 0, 0, [])), (255, (pm_ent 255).getD (0, 0, 0, 0, []))] : List (Nat × pm_M)) := hq
  simp only [List.mem_cons, List.not_mem_nil, or_false] at hq
  rcases hq with rfl | rfl | rfl | rfl | rfl | rfl | rfl | rfl | rfl | rfl | rfl | rfl | rfl | rfl | rfl | rfl
  · exact pm_d240
  · exact pm_d241
  · exact pm_d242
  · exact pm_d243
  · exact pm_d244
  · exact pm_d245
  · exact pm_d246
  · exact pm_d247
  · exact pm_d248
  · exact pm_d249
  · exact pm_d250
  · exact pm_d251
  · exact pm_d252
  · exact pm_d253
  · exact pm_d254
  · exact pm_d255
theorem pm_chk16 : ∀ q ∈ pm_mt.getD 16 [], pm_cm q = true := by
  intro q hq
  have hq : q ∈ ([(256, (pm_ent 256).getD (0, 0, 0, 0, [])), (257, (pm_ent 257).getD (0, 0, 0, 0, [])), (258, (pm_ent 258).getD (0, 0, 0, 0, [])), (259, (pm_ent 259).getD (0, 0, 0, 0, [])), (260, (pm_ent 260).getD (0, 0, 0, 0, [])), (261, (pm_ent 261).getD (0, 0, 0, 0, [])), (262, (pm_ent 262).getD (0, 0, 0, 0, [])), (263, (pm_ent 263).getD (0, 0, 0, 0, [])), (264, (pm_ent 264).getD (0, 0, 0, 0, [])), (265, (pm_ent 265).getD (0, 0, 0, 0, [])), (266, (pm_ent 266).getD (0, 0, 0, 0, [])), (267, (pm_ent 267).getD (0, 0, 0, 0, [])), (268, (pm_ent 268).getD (0, 0, 0, 0, [])), (269, (pm_ent 269).getD (0, 0, 0, 0, [])), (270, (pm_ent 270).getD (0, 0, 0, 0, [])), (271, (pm_ent 271).getD (0, 0, 0, 0, []))] : List (Nat × pm_M)) := hq
  simp only [List.mem_cons, List.not_mem_nil, or_false] at hq
  rcases hq with rfl | rfl | rfl | rfl | rfl | rfl | rfl | rfl | rfl | rfl | rfl | rfl | rfl | rfl | rfl | rfl
  · exact pm_d256
  · exact pm_d257
  · exact pm_d258
  · exact pm_d259
  · exact pm_d260
  · exact pm_d261
  · exact pm_d262
  · exact pm_d263
  · exact pm_d264
  · exact pm_d265
  · exact pm_d266
  · exact pm_d267
  · exact pm_d268
  · exact pm_d269
  · exact pm_d270
  · exact pm_d271
theorem pm_chk17 : ∀ q ∈ pm_mt.getD 17 [], pm_cm q = true := by
  intro q hq
  have hq : q ∈ ([(272, (pm_ent 272).getD (0, 0, 0, 0, [])), (273, (pm_ent 273).getD (0, 0, 0, 0, [])), (274, (pm_ent 274).getD (0, 0, 0, 0, [])), (275, (pm_ent 275).getD (0, 0, 0, 0, [])), (276, (pm_ent 276).getD (0, 0, 0, 0, [])), (277, (pm_ent 277).getD (0, 0, 0, 0, [])), (278, (pm_ent 278).getD (0, 0, 0, 0, [])), (279, (pm_ent 279).getD (0, 0, 0, 0, [])), (280, (pm_ent 280).getD (0, 0, 0, 0, [])), (281, (pm_ent 281).getD (0, 0, 0, 0, [])), (282, (pm_ent 282).getD (0, 0, 0, 0, [])), (283, (pm_ent 283).getD (0, 0, 0, 0, [])), (284, (pm_ent 284).getD (0, 0, 0, 0, [])), (285, (pm_ent 285).getD (0, 0, 0, 0, [])), (286, (pm_ent 286).getD (0, 0, 0, 0, [])), (287, (pm_ent 287).getD (0, 0, 0, 0, []))] : List (Nat × pm_M)) := hq
  simp only [List.mem_cons, List.not_mem_nil, or_false] at hq
  rcases hq with rfl | rfl | rfl | rfl | rfl | rfl | rfl | rfl | rfl | rfl | rfl | rfl | rfl | rfl | rfl | rfl
  · exact pm_d272
  · exact pm_d273
  · exact pm_d274
  · exact pm_d275
  · exact pm_d276
  · exact pm_d277
  · exact pm_d278
  · exact pm_d279
  · exact pm_d280
  · exact pm_d281
  · exact pm_d282
  · exact pm_d283
  · exact pm_d284
  · exact pm_d285
  · exact pm_d286
  · exact pm_d287
theorem pm_chk18 : ∀ q ∈ pm_mt.getD 18 [], pm_cm q = true := by
  intro q hq
  have hq : q ∈ ([(288, (pm_ent 288).getD (0, 0, 0, 0, [])), (289, (pm_ent 289).getD (0, 0, 0, 0, [])), (290, (pm_ent 290).getD (0, 0, 0, 0, [])), (291, (pm_ent 291).getD (0, 0, 0, 0, [])), (292, (pm_ent 292).getD (0, 0, 0, 0, [])), (293, (pm_ent 293).getD (0, 0, 0, 0, [])), (294, (pm_ent 294).getD (0, 0, 0, 0, [])), (295, (pm_ent 295).getD (0, 0, 0, 0, [])), (296, (pm_ent 296).getD (0, 0, 0, 0, [])), (297, (pm_ent 297).getD (0, 0, 0, 0, [])), (298, (pm_ent 298).getD (0, 0, 0, 0, [])), (299, (pm_ent 299).getD (0, 0, 0, 0, [])), (300, (pm_ent 300).getD (0, 0, 0, 0, [])), (301, (pm_ent 301).getD (0, 0, 0, 0, [])), (302, (pm_ent 302).getD (0, 0, 0, 0, [])), (303, (pm_ent 303).getD (0, 0, 0, 0, []))] : List (Nat × pm_M)) := hq
  simp only [List.mem_cons, List.not_mem_nil, or_false] at hq
  rcases hq with rfl | rfl | rfl | rfl | rfl | rfl | rfl | rfl | rfl | rfl | rfl | rfl | rfl | rfl | rfl | rfl
  · exact pm_d288
  · exact pm_d289
  · exact pm_d290
  · exact pm_d291
  · exact pm_d292
  · exact pm_d293
  · exact pm_d294
  · exact pm_d295
  · exact pm_d296
  · exact pm_d297
  · exact pm_d298
  · exact pm_d299
  · exact pm_d300
  · exact pm_d301
  · exact pm_d302
  · exact pm_d303
theorem pm_chk19 : ∀ q ∈ pm_mt.getD 19 [], pm_cm q = true := by
  intro q hq
  have hq : q ∈ ([(304, (pm_ent 304).getD (0, 0, 0, 0, [])), (305, (pm_ent 305).getD (0, 0, 0, 0, [])), (306, (pm_ent 306).getD (0, 0, 0, 0, [])), (307, (pm_ent 307).getD (0, 0, 0, 0, [])), (308, (pm_ent 308).getD (0, 0, 0, 0, [])), (309, (pm_ent 309).getD (0, 0, 0, 0, [])), (310, (pm_ent 310).getD (0, 0, 0, 0, [])), (311, (pm_ent 311).getD (0, 0, 0, 0, [])), (312, (pm_ent 312).getD (0, 0, 0, 0, [])), (313, (pm_ent 313).getD (0, 0, 0, 0, [])), (314, (pm_ent 314).getD (0, 0, 0, 0, [])), (315, (pm_ent 315).getD (0, 0, 0, 0, [])), (316, (pm_ent 316).getD (0, 0, 0, 0, [])), (317, (pm_ent 317).getD (0, 0, 0, 0, [])), (318, (pm_ent 318).getD (0, 0, 0, 0, [])), (319, (pm_ent 319).getD (0, 0, 0, 0, []))] : List (Nat × pm_M)) := hq
  simp only [List.mem_cons, List.not_mem_nil, or_false] at hq
  rcases hq with rfl | rfl | rfl | rfl | rfl | rfl | rfl | rfl | rfl | rfl | rfl | rfl | rfl | rfl | rfl | rfl
  · exact pm_d304
  · exact pm_d305
  · exact pm_d306
  · exact pm_d307
  · exact pm_d308
  · exact pm_d309
  · exact pm_d310
  · exact pm_d311
  · exact pm_d312
  · exact pm_d313
  · exact pm_d314
  · exact pm_d315
  · exact pm_d316
  · exact pm_d317
  · exact pm_d318
  · exact pm_d319
theorem pm_chk20 : ∀ q ∈ pm_mt.getD 20 [], pm_cm q = true := by
  intro q hq
  have hq : q ∈ ([(320, (pm_ent 320).getD (0, 0, 0, 0, [])), (321, (pm_ent 321).getD (0, 0, 0, 0, [])), (322, (pm_ent 322).getD (0, 0, 0, 0, [])), (323, (pm_ent 323).getD (0, 0, 0, 0, [])), (324, (pm_ent 324).getD (0, 0, 0, 0, [])), (325, (pm_ent 325).getD (0, 0, 0, 0, [])), (326, (pm_ent 326).getD (0, 0, 0, 0, [])), (327, (pm_ent 327).getD (0, 0, 0, 0, [])), (328, (pm_ent 328).getD (0, 0, 0, 0, [])), (329, (pm_ent 329).getD (0, 0, 0, 0, [])), (330, (pm_ent 330).getD (0, 0, 0, 0, [])), (331, (pm_ent 331).getD (0, 0, 0, 0, [])), (332, (pm_ent 332).getD (0, 0, 0, 0, [])), (333, (pm_ent 333).getD (0, 0, 0, 0, [])), (334, (pm_ent 334).getD (0, 0, 0, 0, [])), (335, (pm_ent 335).getD (0, 0, 0, 0, []))] : List (Nat × pm_M)) := hq
  simp only [List.mem_cons, List.not_mem_nil, or_false] at hq
  rcases hq with rfl | rfl | rfl | rfl | rfl | rfl | rfl | rfl | rfl | rfl | rfl | rfl | rfl | rfl | rfl | rfl
  · exact pm_d320
  · exact pm_d321
  · exact pm_d322
  · exact pm_d323
  · exact pm_d324
  · exact pm_d325
  · exact pm_d326
  · exact pm_d327
  · exact pm_d328
  · exact pm_d329
  · exact pm_d330
  · exact pm_d331
  · exact pm_d332
  · exact pm_d333
  · exact pm_d334
  · exact pm_d335
theorem pm_chk21 : ∀ q ∈ pm_mt.getD 21 [], pm_cm q = true := by
  intro q hq
  have hq : q ∈ ([(336, (pm_ent 336).getD (0, 0, 0, 0, [])), (337, (pm_ent 337).getD (0, 0, 0, 0, [])), (338, (pm_ent 338).getD (0, 0, 0, 0, [])), (339, (pm_ent 339).getD (0, 0, 0, 0, [])), (340, (pm_ent 340).getD (0, 0, 0, 0, []))] : List (Nat × pm_M)) := hq
  simp only [List.mem_cons, List.not_mem_nil, or_false] at hq
  rcases hq with rfl | rfl | rfl | rfl | rfl
  · exact pm_d336
  · exact pm_d337
  · exact pm_d338
  · exact pm_d339
  · exact pm_d340
theorem pm_cmA {m : Nat} {e : pm_M} (h : pm_ent m = some e) : pm_cm (m, e) = true := by
  have h : pm_get pm_mt m = some e := h
  unfold pm_get at h
  cases hc : pm_nth pm_mt (m / 16) with
  | none => rw [hc] at h; cases h
  | some c =>
    rw [hc] at h
    have hm : (m, e) ∈ c := pm_fnd_mem h
    rw [pm_nth_eq] at hc
    have hd : pm_mt.getD (m / 16) [] = c := by rw [List.getD_eq_getElem?_getD, hc]; rfl
    rw [← hd] at hm
    have hlt : m / 16 < 22 := (List.getElem?_eq_some_iff.mp hc).1
    match hz : m / 16 with
    | 0 => rw [hz] at hm; exact pm_chk0 _ hm
    | 1 => rw [hz] at hm; exact pm_chk1 _ hm
    | 2 => rw [hz] at hm; exact pm_chk2 _ hm
    | 3 => rw [hz] at hm; exact pm_chk3 _ hm
    | 4 => rw [hz] at hm; exact pm_chk4 _ hm
    | 5 => rw [hz] at hm; exact pm_chk5 _ hm
    | 6 => rw [hz] at hm; exact pm_chk6 _ hm
    | 7 => rw [hz] at hm; exact pm_chk7 _ hm
    | 8 => rw [hz] at hm; exact pm_chk8 _ hm
    | 9 => rw [hz] at hm; exact pm_chk9 _ hm
    | 10 => rw [hz] at hm; exact pm_chk10 _ hm
    | 11 => rw [hz] at hm; exact pm_chk11 _ hm
    | 12 => rw [hz] at hm; exact pm_chk12 _ hm
    | 13 => rw [hz] at hm; exact pm_chk13 _ hm
    | 14 => rw [hz] at hm; exact pm_chk14 _ hm
    | 15 => rw [hz] at hm; exact pm_chk15 _ hm
    | 16 => rw [hz] at hm; exact pm_chk16 _ hm
    | 17 => rw [hz] at hm; exact pm_chk17 _ hm
    | 18 => rw [hz] at hm; exact pm_chk18 _ hm
    | 19 => rw [hz] at hm; exact pm_chk19 _ hm
    | 20 => rw [hz] at hm; exact pm_chk20 _ hm
    | 21 => rw [hz] at hm; exact pm_chk21 _ hm
    | j + 22 => exact absurd hlt (by omega)
/-- an instruction of a method: decode gives it, its length, what may stand where -/
theorem pm_code {m pc len : Nat} {e : pm_M} {y : pm_Hd} {i : Instr} (he : pm_ent m = some e) (hy : pm_get pm_hds m = some y) (h : pm_get e.2.2.2.2 pc = some (i, len)) : decode (pm_byt y.2.1) pc = .ok (i, len) ∧ (Nat.beq (pm_ln i) 0 || Nat.beq (pm_ln i) len) = true ∧ pm_oki m e y pc i = true := by
  have h1 := pm_cmA he
  unfold pm_cm at h1
  dsimp only at h1
  rw [hy] at h1
  dsimp only at h1
  rw [pm_all_eq, List.all_eq_true] at h1
  obtain ⟨c, hc, hm⟩ := pm_get_mem h
  have h2 := h1 c hc
  rw [pm_all_eq, List.all_eq_true] at h2
  have h3 := h2 _ hm
  unfold pm_crow at h3
  dsimp only at h3
  cases q1 : decide (decode (pm_byt y.2.1) pc = .ok (i, len)) with
  | false => rw [q1] at h3; cases h3
  | true =>
    rw [q1, cond_true] at h3
    cases q2 : (Nat.beq (pm_ln i) 0 || Nat.beq (pm_ln i) len) with
    | false => rw [q2] at h3; cases h3
    | true =>
      rw [q2, cond_true] at h3
      exact ⟨of_decide_eq_true q1, rfl, h3⟩
end
section
/-! the machine's handlers: K goes on in this method, ih in any -/
noncomputable def pm_kill (ls : pm_L) (i : Nat) : pm_L := Nat.rec ls (fun j _ => match pm_nth ls j with
    | some (some v) => cond (Nat.beq v.category 2) (pm_set ls j none) ls
    | _ => ls) i
noncomputable def pm_put1 (ls : pm_L) (i : Nat) (v : Value) : pm_L := pm_set (pm_kill ls i) i (some v)
noncomputable def pm_put2 (ls : pm_L) (i : Nat) (v : Value) : pm_L := pm_set (pm_set (pm_kill ls i) i (some v)) (i + 1) none
noncomputable def pm_lay (as : List Value) : Nat → pm_L := List.rec (fun n => pm_rep n none) (fun v _ ih n => match v with
    | .long _ => some v :: none :: ih (n - 2)
    | .double _ => some v :: none :: ih (n - 2)
    | _ => some v :: ih (n - 1)) as
noncomputable def pm_pop (n : Nat) : List Value → List Value → Option (List Value × List Value) :=
  Nat.rec (fun st acc => some (acc, st)) (fun _ ih st acc => List.rec none (fun v r _ => ih r (v :: acc)) st) n
noncomputable def pm_cell (h : pm_H) (a : Nat) : Option pm_C := cond (Nat.blt a 16) none (pm_nth h (a - 16))
def pm_cnd (c : ClassFile.Cond) (x y : Int32) : Bool := match c with
  | .eq => decide (x = y)
  | .ne => !decide (x = y)
  | .lt => decide (x < y)
  | .ge => decide (y ≤ x)
  | .gt => decide (y < x)
  | .le => decide (x ≤ y)
/-- may a field of the type code hold it: 0 int, 1 boolean, 2 long, 3 a reference -/
def pm_fit (t : Nat) (v : Value) : Bool := match v with
  | .int x => cond (Nat.beq t 0) true (Nat.beq t 1 && (decide (x = 0) || decide (x = 1)))
  | .long _ => Nat.beq t 2
  | .ref _ => Nat.beq t 3
  | .null => Nat.beq t 3
  | _ => false
/-- the elements in a place that is read: an own array, or one that is there at the start; type code 0 int, 1 boolean, 2 char, 3 long, 4 byte, 5 + ci: of references to class ci -/
noncomputable def pm_row (X : List (Nat × List Value)) (h : pm_H) (a : Nat) : Option (Nat × List Value) := cond (Nat.blt a 16) (match pm_nth X a with
  | some q => cond (Nat.beq q.1 0) (some q) none
  | none => none) (match pm_nth h (a - 16) with
  | some (.inl q) => some q
  | _ => none)
noncomputable def pm_in (i : Int32) (n : Nat) : Bool := cond (decide (i < 0)) false (Nat.blt i.toNatClampNeg n)
/-- the type codes of arrays that there are: of numbers, of Marks, of Scripts -/
def pm_okt (t : Nat) : Bool := Nat.blt t 5 || Nat.beq t 8 || Nat.beq t 12
def pm_tc (t : ArrayType) : Nat × Value := match t with
  | .int => (0, .int 0)
  | .boolean => (1, .int 0)
  | .char => (2, .int 0)
  | .long => (3, .long 0)
  | .byte => (4, .int 0)
  | _ => (99, .null)
def pm_scv (n : Nat) (v : Value) : Bool := match v with
  | .ref a => Nat.blt a n
  | _ => true
noncomputable def pm_scc (n : Nat) (c : pm_C) : Bool := match c with
  | .inl q => cond (Nat.blt q.1 5) true (pm_all (pm_scv n) q.2)
  | .inr q => pm_all (pm_scv n) q.2
noncomputable def pm_scH (h : pm_H) : Bool := pm_all (pm_scc (16 + pm_len h)) h
def pm_scl (n : Nat) (v : Option Value) : Bool := match v with
  | some (.ref a) => Nat.blt a n
  | _ => true
def pm_cpy (src dst : List Value) (sp dp n : Nat) : List Value := dst.take dp ++ ((src.drop sp).take n ++ dst.drop (dp + n))
noncomputable def pm_tsw (x lo hi dflt : Int) (offs : Array Int) (K : Int → pm_R) : pm_R := if x < lo ∨ hi < x then K dflt else match pm_nth offs.toList (x - lo).toNat with
  | some o => K o
  | none => none
abbrev pm_S : Type := (Nat → pm_L → List Value → pm_R) → Nat → Nat → pm_L → List Value → pm_R
abbrev pm_I : Type := Nat → pm_H → Nat → Nat → pm_L → List Value → pm_R
abbrev pm_G : Type := pm_I → Nat → pm_H → Nat → Nat → Nat → Nat → pm_L → List Value → pm_R
noncomputable def pm_to (z : Int) (K : Nat → pm_R) : pm_R := match z with
  | .ofNat t => pm_fn t K
  | _ => none
noncomputable def pm_sC (v : Value) : pm_S := fun K pc len ls st => pm_fn (pc + len) fun q => K q ls (v :: st)
noncomputable def pm_sIld (k : Nat) : pm_S := fun K pc len ls st => match pm_nth ls k with
  | some (some (.int a)) => pm_fn (pc + len) fun q => K q ls (.int a :: st)
  | _ => none
noncomputable def pm_sLld (k : Nat) : pm_S := fun K pc len ls st => match pm_nth ls k with
  | some (some (.long a)) => pm_fn (pc + len) fun q => K q ls (.long a :: st)
  | _ => none
noncomputable def pm_sAld (k : Nat) : pm_S := fun K pc len ls st => match pm_nth ls k with
  | some (some (.ref a)) => pm_fn (pc + len) fun q => K q ls (.ref a :: st)
  | _ => none
noncomputable def pm_sIst (k : Nat) : pm_S := fun K pc len ls st => match st with
  | .int x :: r => cond (Nat.blt k (pm_len ls)) (pm_fi x fun y => pm_fn (pc + len) fun q => K q (pm_put1 ls k (.int y)) r) none
  | _ => none
noncomputable def pm_sLst (k : Nat) : pm_S := fun K pc len ls st => match st with
  | .long x :: r => cond (Nat.blt (k + 1) (pm_len ls)) (pm_fl x fun y => pm_fn (pc + len) fun q => K q (pm_put2 ls k (.long y)) r) none
  | _ => none
noncomputable def pm_sAst (k : Nat) : pm_S := fun K pc len ls st => match st with
  | .ref x :: r => cond (Nat.blt k (pm_len ls)) (pm_fn (pc + len) fun q => K q (pm_put1 ls k (.ref x)) r) none
  | _ => none
noncomputable def pm_sInc (k : Nat) (n : Int) : pm_S := fun K pc len ls st => match pm_nth ls k with
  | some (some (.int x)) => cond (Nat.beq len 3) (pm_fi (x + Int32.ofInt n) fun y => pm_fn (pc + len) fun q => K q (pm_put1 ls k (.int y)) st) none
  | _ => none
noncomputable def pm_sII (f : Int32 → Int32 → Int32) : pm_S := fun K pc len ls st => match st with
  | .int y :: .int x :: r => pm_fn (pc + len) fun q => K q ls (.int (f x y) :: r)
  | _ => none
noncomputable def pm_sIIz (f : Int32 → Int32 → Int32) : pm_S := fun K pc len ls st => match st with
  | .int y :: .int x :: r => cond (decide (y = 0)) none (pm_fn (pc + len) fun q => K q ls (.int (f x y) :: r))
  | _ => none
noncomputable def pm_sI (f : Int32 → Int32) : pm_S := fun K pc len ls st => match st with
  | .int x :: r => pm_fn (pc + len) fun q => K q ls (.int (f x) :: r)
  | _ => none
noncomputable def pm_sLL (f : Int64 → Int64 → Int64) : pm_S := fun K pc len ls st => match st with
  | .long y :: .long x :: r => pm_fn (pc + len) fun q => K q ls (.long (f x y) :: r)
  | _ => none
noncomputable def pm_sLLz (f : Int64 → Int64 → Int64) : pm_S := fun K pc len ls st => match st with
  | .long y :: .long x :: r => cond (decide (y = 0)) none (pm_fn (pc + len) fun q => K q ls (.long (f x y) :: r))
  | _ => none
noncomputable def pm_sLI (f : Int64 → Int32 → Int64) : pm_S := fun K pc len ls st => match st with
  | .int y :: .long x :: r => pm_fn (pc + len) fun q => K q ls (.long (f x y) :: r)
  | _ => none
noncomputable def pm_sL (f : Int64 → Int64) : pm_S := fun K pc len ls st => match st with
  | .long x :: r => pm_fn (pc + len) fun q => K q ls (.long (f x) :: r)
  | _ => none
noncomputable def pm_sIL (f : Int32 → Int64) : pm_S := fun K pc len ls st => match st with
  | .int x :: r => pm_fn (pc + len) fun q => K q ls (.long (f x) :: r)
  | _ => none
noncomputable def pm_sLi (f : Int64 → Int32) : pm_S := fun K pc len ls st => match st with
  | .long x :: r => pm_fn (pc + len) fun q => K q ls (.int (f x) :: r)
  | _ => none
noncomputable def pm_sCmp : pm_S := fun K pc len ls st => match st with
  | .long y :: .long x :: r => pm_fn (pc + len) fun q => K q ls (.int (lg_cmp x y) :: r)
  | _ => none
noncomputable def pm_sDup : pm_S := fun K pc len ls st => match st with
  | v :: r => cond (Nat.beq v.category 1) (pm_fn (pc + len) fun q => K q ls (v :: v :: r)) none
  | _ => none
noncomputable def pm_sPop : pm_S := fun K pc len ls st => match st with
  | v :: r => cond (Nat.beq v.category 1) (pm_fn (pc + len) fun q => K q ls r) none
  | _ => none
noncomputable def pm_sIf (c : ClassFile.Cond) (off : Int) : pm_S := fun K pc _ ls st => match st with
  | .int x :: r => pm_to ((pc : Int) + off) fun t => cond (pm_cnd c x 0) (K t ls r) (pm_fn (pc + 3) fun q => K q ls r)
  | _ => none
noncomputable def pm_sIf2 (c : ClassFile.Cond) (off : Int) : pm_S := fun K pc _ ls st => match st with
  | .int y :: .int x :: r => pm_to ((pc : Int) + off) fun t => cond (pm_cnd c x y) (K t ls r) (pm_fn (pc + 3) fun q => K q ls r)
  | _ => none
noncomputable def pm_sGo (off : Int) : pm_S := fun K pc _ ls st => pm_to ((pc : Int) + off) fun t => K t ls st
noncomputable def pm_sTsw (d lo hi : Int) (offs : Array Int) : pm_S := fun K pc _ ls st => match st with
  | .int x :: r => pm_tsw x.toInt lo hi d offs fun o => pm_to ((pc : Int) + o) fun t => K t ls r
  | _ => none
noncomputable def pm_sLsw (d : Int) (ps : Array (Int × Int)) : pm_S := fun K pc _ ls st => match st with
  | .int x :: r => cond ((ps.toList.zip (ps.toList.drop 1)).all (fun (a, next) => a.1 < next.1)) (pm_to ((pc : Int) + Op.lookupswitch.offset ps.toList d x.toInt) fun t => K t ls r) none
  | _ => none
noncomputable def pm_gLdc (ix : Nat) : pm_G := fun ih d h m own pc len ls st => match pm_get (pm_lnk own) ix with
  | some (8, n, _, _) => pm_fn (pc + len) fun q => ih d h m q ls (.int (Int32.ofNat n) :: st)
  | some (10, a, _, _) => pm_fn (pc + len) fun q => ih d h m q ls (.ref a :: st)
  | _ => none
noncomputable def pm_gLdw (ix : Nat) : pm_G := fun ih d h m own pc len ls st => match pm_get (pm_lnk own) ix with
  | some (8, n, _, _) => pm_fn (pc + len) fun q => ih d h m q ls (.int (Int32.ofNat n) :: st)
  | _ => none
noncomputable def pm_gLd2 (ix : Nat) : pm_G := fun ih d h m own pc len ls st => match pm_get (pm_lnk own) ix with
  | some (9, n, _, _) => pm_fn (pc + len) fun q => ih d h m q ls (.long (Int64.ofNat n) :: st)
  | _ => none
noncomputable def pm_gSta (ix : Nat) : pm_G := fun ih d h m own pc len ls st => match pm_get (pm_lnk own) ix with
  | some (11, a, _, _) => pm_fn (pc + len) fun q => ih d h m q ls (.ref a :: st)
  | _ => none
noncomputable def pm_gGet (ix : Nat) : pm_G := fun ih d h m own pc len ls st => match st with
  | .ref a :: r => match pm_get (pm_lnk own) ix, pm_cell h a with
    | some (0, ci, k, _), some (.inr (cj, fs)) => cond (Nat.beq ci cj) (match pm_nth fs k with
        | some v => pm_fn (pc + len) fun q => ih d h m q ls (v :: r)
        | none => none) none
    | _, _ => none
  | _ => none
/-- a value, its number written out -/
noncomputable def pm_fv (v : Value) (k : Value → pm_R) : pm_R := match v with
  | .int x => pm_fi x fun y => k (.int y)
  | .long x => pm_fl x fun y => k (.long y)
  | v => k v
noncomputable def pm_gPut (ix : Nat) : pm_G := fun ih d h m own pc len ls st => match st with
  | v :: .ref a :: r => match pm_get (pm_lnk own) ix, pm_cell h a with
    | some (0, ci, k, t), some (.inr (cj, fs)) => cond (Nat.beq ci cj) (cond (Nat.blt k (pm_len fs)) (cond (pm_fit t v) (pm_fv v fun v => pm_fn (pc + len) fun q => ih d (pm_set h (a - 16) (.inr (cj, pm_set fs k v))) m q ls r) none) none) none
    | _, _ => none
  | _ => none
noncomputable def pm_gNew (X : List (Nat × List Value)) (ix : Nat) : pm_G := fun ih d h m own pc len ls st => match pm_get (pm_lnk own) ix with
  | some (6, ci, n, _) => match pm_nth X (16 + ci) with
    | some (_, fs) => cond (Nat.beq (pm_len fs) n) (pm_fn (pm_len h) fun z => pm_fn (pc + len) fun q => ih d (h ++ [.inr (ci, fs)]) m q ls (.ref (16 + z) :: st)) none
    | none => none
  | some (13, _, _, _) => cond (pm_scH h && Nat.beq (pm_len st) 0) (some (h, .inr ())) none
  | _ => none
noncomputable def pm_gNwa (t : ArrayType) : pm_G := fun ih d h m _ pc len ls st => match st with
  | .int n :: r => cond (decide (n < 0)) none (cond (Nat.ble n.toNatClampNeg 60000) (cond (Nat.blt (pm_tc t).1 5) (pm_fn (pm_len h) fun z => pm_fn (pc + len) fun q => ih d (h ++ [.inl ((pm_tc t).1, pm_rep n.toNatClampNeg (pm_tc t).2)]) m q ls (.ref (16 + z) :: r)) none) none)
  | _ => none
noncomputable def pm_gAnw (ix : Nat) : pm_G := fun ih d h m own pc len ls st => match st, pm_get (pm_lnk own) ix with
  | .int n :: r, some (6, ci, _, _) => cond (decide (n < 0)) none (cond (Nat.ble n.toNatClampNeg 60000 && pm_okt (5 + ci)) (pm_fn (pm_len h) fun z => pm_fn (pc + len) fun q => ih d (h ++ [.inl (5 + ci, pm_rep n.toNatClampNeg .null)]) m q ls (.ref (16 + z) :: r)) none)
  | _, _ => none
noncomputable def pm_gLen (X : List (Nat × List Value)) : pm_G := fun ih d h m _ pc len ls st => match st with
  | .ref a :: r => match pm_row X h a with
    | some (t, l) => cond (pm_okt t) (pm_fn (pm_len l) fun z => pm_fn (pc + len) fun q => ih d h m q ls (.int (Int32.ofNat z) :: r)) none
    | none => none
  | _ => none
/-- a load from a row of the type code t, or t' -/
noncomputable def pm_gAld (X : List (Nat × List Value)) (t t' : Nat) : pm_G := fun ih d h m _ pc len ls st => match st with
  | .int j :: .ref a :: r => match pm_row X h a with
    | some (u, l) => cond (Nat.beq u t || Nat.beq u t') (cond (decide (j < 0)) none (match pm_nth l j.toNatClampNeg with
        | some (.int x) => pm_fn (pc + len) fun q => ih d h m q ls (.int x :: r)
        | _ => none)) none
    | none => none
  | _ => none
noncomputable def pm_gLald (X : List (Nat × List Value)) : pm_G := fun ih d h m _ pc len ls st => match st with
  | .int j :: .ref a :: r => match pm_row X h a with
    | some (u, l) => cond (Nat.beq u 3) (cond (decide (j < 0)) none (match pm_nth l j.toNatClampNeg with
        | some (.long x) => pm_fn (pc + len) fun q => ih d h m q ls (.long x :: r)
        | _ => none)) none
    | none => none
  | _ => none
noncomputable def pm_gAald : pm_G := fun ih d h m _ pc len ls st => match st with
  | .int j :: .ref a :: r => match pm_cell h a with
    | some (.inl (t, l)) => cond (Nat.beq t 8 || Nat.beq t 12) (cond (decide (j < 0)) none (match pm_nth l j.toNatClampNeg with
        | some (.ref x) => pm_fn (pc + len) fun q => ih d h m q ls (.ref x :: r)
        | _ => none)) none
    | _ => none
  | _ => none
/-- a store of an int into a row of the type code t, narrowed by f -/
noncomputable def pm_gIst (t : Nat) (f : Int32 → Int32) : pm_G := fun ih d h m _ pc len ls st => match st with
  | .int x :: .int j :: .ref a :: r => match pm_cell h a with
    | some (.inl (u, l)) => cond (Nat.beq u t) (cond (pm_in j (pm_len l)) (pm_fi (f x) fun y => pm_fn (pc + len) fun q => ih d (pm_set h (a - 16) (.inl (u, pm_set l j.toNatClampNeg (.int y)))) m q ls r) none) none
    | _ => none
  | _ => none
noncomputable def pm_gLst : pm_G := fun ih d h m _ pc len ls st => match st with
  | .long x :: .int j :: .ref a :: r => match pm_cell h a with
    | some (.inl (u, l)) => cond (Nat.beq u 3) (cond (pm_in j (pm_len l)) (pm_fl x fun y => pm_fn (pc + len) fun q => ih d (pm_set h (a - 16) (.inl (u, pm_set l j.toNatClampNeg (.long y)))) m q ls r) none) none
    | _ => none
  | _ => none
noncomputable def pm_gAst : pm_G := fun ih d h m _ pc len ls st => match st with
  | .ref x :: .int j :: .ref a :: r => match pm_cell h a, pm_cell h x with
    | some (.inl (t, l)), some (.inr (ci, _)) => cond (pm_in j (pm_len l)) (cond (Nat.beq t (5 + ci) && (Nat.beq t 8 || Nat.beq t 12)) (pm_fn (pc + len) fun q => ih d (pm_set h (a - 16) (.inl (t, pm_set l j.toNatClampNeg (.ref x)))) m q ls r) none) none
    | _, _ => none
  | _ => none
noncomputable def pm_p0 (X : List (Nat × List Value)) (K : pm_H → List Value → pm_R) (h : pm_H) (st : List Value) : pm_R := match st with
  | .ref _ :: r => K h r
  | _ => none
noncomputable def pm_p1 (X : List (Nat × List Value)) (K : pm_H → List Value → pm_R) (h : pm_H) (st : List Value) : pm_R := match st with
  | .int y :: .int x :: r => K h (.int (if x < y then y else x) :: r)
  | _ => none
noncomputable def pm_p2 (X : List (Nat × List Value)) (K : pm_H → List Value → pm_R) (h : pm_H) (st : List Value) : pm_R := match st with
  | .int y :: .int x :: r => K h (.int (if y < x then y else x) :: r)
  | _ => none
noncomputable def pm_p3 (X : List (Nat × List Value)) (K : pm_H → List Value → pm_R) (h : pm_H) (st : List Value) : pm_R := match st with
  | .int x :: r => K h (.int (if 0 ≤ x then x else 0 - x) :: r)
  | _ => none
noncomputable def pm_p4 (X : List (Nat × List Value)) (K : pm_H → List Value → pm_R) (h : pm_H) (st : List Value) : pm_R := match st with
  | .long x :: r => K h (.long (if 0 < x then x else -x) :: r)
  | _ => none
noncomputable def pm_p5 (X : List (Nat × List Value)) (K : pm_H → List Value → pm_R) (h : pm_H) (st : List Value) : pm_R := match st with
  | .int n :: .int dp :: .ref d :: .int sp :: .ref a :: r => match pm_row X h a, pm_cell h d with
    | some (t, l), some (.inl (t', l')) => cond (Nat.beq t 0 && (Nat.beq t' 0 && (Nat.ble 16 a && (!decide (n < 0) && (!decide (dp < 0) && (!decide (sp < 0) && (Nat.ble (sp.toNatClampNeg + n.toNatClampNeg) (pm_len l) && Nat.ble (dp.toNatClampNeg + n.toNatClampNeg) (pm_len l'))))))))
        (K (pm_set h (d - 16) (.inl (0, pm_cpy l l' sp.toNatClampNeg dp.toNatClampNeg n.toNatClampNeg))) r) none
    | _, _ => none
  | _ => none
noncomputable def pm_p6 (X : List (Nat × List Value)) (K : pm_H → List Value → pm_R) (h : pm_H) (st : List Value) : pm_R := match st with
  | .int x :: .ref d :: r => match pm_cell h d with
    | some (.inl (t, l)) => cond (Nat.beq t 0 && Nat.ble (pm_len l) 60000) (K (pm_set h (d - 16) (.inl (0, pm_rep (pm_len l) (.int x)))) r) none
    | _ => none
  | _ => none
/-- what is called by its meaning: 0 Object.<init>, 1 max, 2 min, 3, 4 abs, 5 arraycopy, 6 fill -/
noncomputable def pm_prim (X : List (Nat × List Value)) (f : Nat) (K : pm_H → List Value → pm_R) (h : pm_H) (st : List Value) : pm_R := match f with
  | 0 => pm_p0 X K h st
  | 1 => pm_p1 X K h st
  | 2 => pm_p2 X K h st
  | 3 => pm_p3 X K h st
  | 4 => pm_p4 X K h st
  | 5 => pm_p5 X K h st
  | 6 => pm_p6 X K h st
  | _ => none
/-- the words that stay on the stack under a call: 8 at most -/
noncomputable def pm_cat8 (r : List Value) : Bool := Nat.ble (List.rec 0 (fun v _ ih => v.category + ih) r) 8
/-- a call of m' with the arguments As; hnd: what it throws is caught here -/
noncomputable def pm_call (ih : pm_I) (d : Nat) (h : pm_H) (m pc : Nat) (ls : pm_L) (m' : Nat) (As rest : List Value) (hnd : Bool) : pm_R := match d with
  | 0 => none
  | d' + 1 => match pm_ent m' with
    | none => none
    | some e => cond (Nat.beq (pm_len (pm_lay As e.2.1)) e.2.1) (match ih d' h m' 0 (pm_lay As e.2.1) [] with
      | some (h', .inl v) => pm_fn (pc + 3) fun q => ih d h' m q ls (v.toList ++ rest)
      | some (h', .inr _) => cond hnd (some (h', .inl (some (.int 1)))) none
      | none => none) none
/-- by its kind: 1 virtual, 2 static, 3 a constructor -/
noncomputable def pm_gC (how : Nat) (ih : pm_I) (d : Nat) (h : pm_H) (m own pc : Nat) (ls : pm_L) (m' ci : Nat) (As rest : List Value) : pm_R := match how with
  | 1 => match As with
    | .ref a :: _ => match pm_cell h a with
      | some (.inr (cj, _)) => cond (Nat.beq cj ci) (pm_call ih d h m pc ls m' As rest (Nat.beq own 13 && !Nat.beq m 309)) none
      | _ => none
    | _ => none
  | 2 => pm_call ih d h m pc ls m' As rest false
  | 3 => match As with
    | .ref _ :: _ => pm_call ih d h m pc ls m' As rest false
    | _ => none
  | _ => none
/-- how: 1 virtual, 2 static, 3 a constructor -/
noncomputable def pm_gInv (X : List (Nat × List Value)) (how ix : Nat) : pm_G := fun ih d h m own pc _ ls st => match pm_get (pm_lnk own) ix with
  | some (kind, m', na, ci) =>
    cond (Nat.beq kind 12) (cond (Nat.beq how (cond (Nat.beq m' 0) 3 2)) (pm_prim X m' (fun h' st' => cond (pm_cat8 st') (pm_fn (pc + 3) fun q => ih d h' m q ls st') none) h st) none)
      (match pm_pop na st [] with
      | some (As, rest) => cond (pm_cat8 rest) (cond (Nat.beq kind how) (pm_gC how ih d h m own pc ls m' ci As rest)
          (cond (Nat.beq kind 14 && (Nat.beq how 2 && Nat.beq own 13)) (cond (pm_all (pm_scl (16 + pm_len h)) ls && pm_all (pm_scv (16 + pm_len h)) rest) (pm_call ih d h m pc ls m' As rest false) none) none)) none
      | none => none)
  | none => none
/-- an answer: the stack holds it alone, and it is of the kind that the method's head says -/
noncomputable def pm_gRet (lo hi : Nat) : pm_G := fun _ _ h m _ _ _ _ st => match st with
  | [v] => match pm_ent m with
    | some e => cond (Nat.ble lo e.2.2.2.1) (cond (Nat.ble e.2.2.2.1 hi) (cond (pm_fit e.2.2.2.1 v) (some (h, .inl (some v))) none) none) none
    | none => none
  | _ => none
noncomputable def pm_gRtv : pm_G := fun _ _ h m _ _ _ _ st => match st with
  | [] => match pm_ent m with
    | some e => cond (Nat.beq e.2.2.2.1 4) (some (h, .inl none)) none
    | none => none
  | _ => none
noncomputable def pm_lift (s : pm_S) : pm_G := fun ih d h m _ pc len ls st => s (ih d h m) pc len ls st
noncomputable def pm_dsp (X : List (Nat × List Value)) (i : Instr) : pm_G := match i with
  | .iconst n => pm_lift (pm_sC (.int (Int32.ofInt n)))
  | .bipush n => pm_lift (pm_sC (.int (Int8.ofInt n).toInt32))
  | .sipush n => pm_lift (pm_sC (.int (Int16.ofInt n).toInt32))
  | .lconst n => pm_lift (pm_sC (.long (Int64.ofNat n.val)))
  | .aload k => pm_lift (pm_sAld k)
  | .aload_n k => pm_lift (pm_sAld k.val)
  | .iload k => pm_lift (pm_sIld k)
  | .iload_n k => pm_lift (pm_sIld k.val)
  | .lload k => pm_lift (pm_sLld k)
  | .lload_n k => pm_lift (pm_sLld k.val)
  | .istore k => pm_lift (pm_sIst k)
  | .istore_n k => pm_lift (pm_sIst k.val)
  | .astore k => pm_lift (pm_sAst k)
  | .astore_n k => pm_lift (pm_sAst k.val)
  | .lstore k => pm_lift (pm_sLst k)
  | .lstore_n k => pm_lift (pm_sLst k.val)
  | .iinc k n => pm_lift (pm_sInc k n)
  | .iadd => pm_lift (pm_sII fun x y => x + y)
  | .isub => pm_lift (pm_sII fun x y => x - y)
  | .imul => pm_lift (pm_sII fun x y => x * y)
  | .iand => pm_lift (pm_sII fun x y => x &&& y)
  | .ior => pm_lift (pm_sII fun x y => x ||| y)
  | .idiv => pm_lift (pm_sIIz fun x y => x / y)
  | .irem => pm_lift (pm_sIIz fun x y => x - x / y * y)
  | .ineg => pm_lift (pm_sI fun x => -x)
  | .ishl => pm_lift (pm_sII fun x y => x <<< (y &&& 31))
  | .ishr => pm_lift (pm_sII fun x y => x >>> (y &&& 31))
  | .iushr => pm_lift (pm_sII fun x y => (x.toUInt32 >>> (y.toUInt32 &&& Int32.toUInt32 31)).toInt32)
  | .ladd => pm_lift (pm_sLL fun x y => x + y)
  | .lsub => pm_lift (pm_sLL fun x y => x - y)
  | .lmul => pm_lift (pm_sLL fun x y => x * y)
  | .land => pm_lift (pm_sLL fun x y => x &&& y)
  | .lor => pm_lift (pm_sLL fun x y => x ||| y)
  | .ldiv => pm_lift (pm_sLLz fun x y => x / y)
  | .lrem => pm_lift (pm_sLLz fun x y => x - x / y * y)
  | .lneg => pm_lift (pm_sL fun x => -x)
  | .lshl => pm_lift (pm_sLI fun x y => x <<< (y.toInt64 &&& 63))
  | .lshr => pm_lift (pm_sLI fun x y => x >>> (y.toInt64 &&& 63))
  | .lushr => pm_lift (pm_sLI fun x y => (x.toUInt64 >>> (y.toInt64.toUInt64 &&& Int64.toUInt64 63)).toInt64)
  | .lcmp => pm_lift pm_sCmp
  | .i2l => pm_lift (pm_sIL fun x => x.toInt64)
  | .l2i => pm_lift (pm_sLi fun x => x.toInt32)
  | .i2b => pm_lift (pm_sI fun x => x.toInt8.toInt32)
  | .i2c => pm_lift (pm_sI fun x => (x.toUInt32 % 65536).toInt32)
  | .dup => pm_lift pm_sDup
  | .pop => pm_lift pm_sPop
  | .ifCond c off => pm_lift (pm_sIf c off)
  | .if_icmp c off => pm_lift (pm_sIf2 c off)
  | .goto off => pm_lift (pm_sGo off)
  | .tableswitch d lo hi offs => pm_lift (pm_sTsw d lo hi offs)
  | .lookupswitch d ps => pm_lift (pm_sLsw d ps)
  | .ldc ix => pm_gLdc ix
  | .ldc_w ix => pm_gLdw ix
  | .ldc2_w ix => pm_gLd2 ix
  | .getstatic ix => pm_gSta ix
  | .getfield ix => pm_gGet ix
  | .putfield ix => pm_gPut ix
  | .new ix => pm_gNew X ix
  | .newarray t => pm_gNwa t
  | .anewarray ix => pm_gAnw ix
  | .arraylength => pm_gLen X
  | .iaload => pm_gAld X 0 0
  | .baload => pm_gAld X 1 4
  | .caload => pm_gAld X 2 2
  | .laload => pm_gLald X
  | .aaload => pm_gAald
  | .iastore => pm_gIst 0 fun x => x
  | .bastore => pm_gIst 1 fun x => x &&& 1
  | .castore => pm_gIst 2 fun x => x.toUInt32.toUInt16.toUInt32.toInt32
  | .lastore => pm_gLst
  | .aastore => pm_gAst
  | .invokestatic ix => pm_gInv X 2 ix
  | .invokevirtual ix => pm_gInv X 1 ix
  | .invokespecial ix => pm_gInv X 3 ix
  | .ireturn => pm_gRet 0 1
  | .lreturn => pm_gRet 2 2
  | .areturn => pm_gRet 3 3
  | .return_ => pm_gRtv
  | _ => fun _ _ _ _ _ _ _ _ _ => none
noncomputable def pm_F (X : List (Nat × List Value)) (ih : pm_I) : pm_I := fun d h m pc ls st => match pm_ent m with
  | none => none
  | some e => match pm_get e.2.2.2.2 pc with
    | none => none
    | some q => pm_dsp X q.1 ih d h m e.2.2.1 pc q.2 ls st
/-- the machine: n bounds the steps and the depth -/
noncomputable def pm_x (X : List (Nat × List Value)) (n : Nat) : pm_I := Nat.rec (fun _ _ _ _ _ _ => none) (fun _ ih => pm_F X ih) n
theorem pm_x_succ (X : List (Nat × List Value)) (n : Nat) : pm_x X (n + 1) = pm_F X (pm_x X n) := rfl
end
section
/-! soundness, the instructions that leave the heap alone -/
def pm_rv (ad : Nat → Nat) (v : Value) : Value := match v with
  | .ref a => .ref (ad a)
  | v => v
theorem pm_rv_cat (ad : Nat → Nat) (v : Value) : (pm_rv ad v).category = v.category := by cases v <;> rfl
/-- the locals: what the picture knows of them holds -/
def pm_lr (ad : Nat → Nat) (nL : Nat) (ls : pm_L) (LS : Array Slot) : Prop := LS.size = nL ∧ ls.length = nL ∧ lv_wf LS ∧ ∀ (i : Nat) (v : Value), ls[i]? = some (some v) → LS[i]? = some (.val (pm_rv ad v))
def pm_prs (ad : Nat → Nat) (ls : pm_L) : List (Nat × Value) := (List.range ls.length).filterMap (fun i => match ls[i]? with
  | some (some v) => some (i, pm_rv ad v)
  | _ => none)
theorem pm_prs_of {ad : Nat → Nat} {ls : pm_L} {i : Nat} {v : Value} (h : ls[i]? = some (some v)) : (i, pm_rv ad v) ∈ pm_prs ad ls := by
  unfold pm_prs
  refine List.mem_filterMap.mpr ⟨i, List.mem_range.mpr (List.getElem?_eq_some_iff.mp h).1, ?_⟩
  rw [h]
theorem pm_prs_mem {ad : Nat → Nat} {ls : pm_L} {q : Nat × Value} (h : q ∈ pm_prs ad ls) : ∃ v, ls[q.1]? = some (some v) ∧ q.2 = pm_rv ad v := by
  unfold pm_prs at h
  obtain ⟨i, -, hi⟩ := List.mem_filterMap.mp h
  split at hi
  · rename_i v hv
    cases hi
    exact ⟨v, hv, rfl⟩
  · cases hi
theorem pm_lr.has {ad : Nat → Nat} {nL : Nat} {ls : pm_L} {LS : Array Slot} (h : pm_lr ad nL ls LS) : lv_has LS nL (pm_prs ad ls) := by
  refine ⟨h.1, h.2.2.1, fun q hq => ?_⟩
  obtain ⟨v, h1, h2⟩ := pm_prs_mem hq
  rw [h2]
  exact h.2.2.2 _ _ h1
theorem pm_kill_len (ls : pm_L) (i : Nat) : (pm_kill ls i).length = ls.length := by
  cases i with
  | zero => rfl
  | succ j =>
    show List.length (match pm_nth ls j with
      | some (some v) => cond (Nat.beq v.category 2) (pm_set ls j none) ls
      | _ => ls) = _
    split
    · rename_i v _
      cases Nat.beq v.category 2
      · rfl
      · rw [cond_true, pm_set_eq]; simp
    · rfl
theorem pm_kill_get {ls : pm_L} {i k : Nat} {v : Value} (h : (pm_kill ls i)[k]? = some (some v)) : ls[k]? = some (some v) ∧ ¬ (k + 1 = i ∧ v.category = 2) := by
  cases i with
  | zero => exact ⟨h, fun q => by omega⟩
  | succ j =>
    have e : pm_kill ls (j + 1) = (match pm_nth ls j with
      | some (some v) => cond (Nat.beq v.category 2) (pm_set ls j none) ls
      | _ => ls) := rfl
    rw [e] at h
    split at h
    · rename_i w hw
      rw [pm_nth_eq] at hw
      cases hc : Nat.beq w.category 2 with
      | false =>
        rw [hc, cond_false] at h
        refine ⟨h, fun q => ?_⟩
        obtain ⟨q1, q2⟩ := q
        have q3 : k = j := by omega
        subst q3
        rw [hw] at h
        cases h
        rw [q2] at hc
        cases hc
      | true =>
        rw [hc, cond_true, pm_set_eq] at h
        by_cases hk : j = k
        · subst hk
          rw [List.getElem?_set_self (List.getElem?_eq_some_iff.mp hw).1] at h
          cases h
        · rw [List.getElem?_set_ne hk] at h
          exact ⟨h, fun q => hk (by omega)⟩
    · rename_i hn
      refine ⟨h, fun q => ?_⟩
      have q3 : k = j := by omega
      subst q3
      exact hn v (by rw [pm_nth_eq]; exact h)
theorem pm_put1_len (ls : pm_L) (i : Nat) (v : Value) : (pm_put1 ls i v).length = ls.length := by
  unfold pm_put1
  rw [pm_set_eq, List.length_set, pm_kill_len]
theorem pm_put2_len (ls : pm_L) (i : Nat) (v : Value) : (pm_put2 ls i v).length = ls.length := by
  unfold pm_put2
  rw [pm_set_eq, pm_set_eq, List.length_set, List.length_set, pm_kill_len]
theorem pm_put1_get {ls : pm_L} {i k : Nat} {v w : Value} (hi : i < ls.length) (h : (pm_put1 ls i v)[k]? = some (some w)) : (k = i ∧ w = v) ∨ (k ≠ i ∧ ls[k]? = some (some w) ∧ ¬ (k + 1 = i ∧ w.category = 2)) := by
  unfold pm_put1 at h
  rw [pm_set_eq] at h
  by_cases hk : i = k
  · subst hk
    rw [List.getElem?_set_self (by rw [pm_kill_len]; exact hi)] at h
    cases h
    exact Or.inl ⟨rfl, rfl⟩
  · rw [List.getElem?_set_ne hk] at h
    exact Or.inr ⟨fun q => hk q.symm, pm_kill_get h⟩
theorem pm_lr.put1 {ad : Nat → Nat} {nL i : Nat} {ls : pm_L} {LS LS' : Array Slot} {v : Value} (h : pm_lr ad nL ls LS) (hi : i < ls.length)
    (h' : lv_has LS' nL ((i, pm_rv ad v) :: (pm_prs ad ls).filter (fun q => !(q.1 == i) && !(q.1 + 1 == i && q.2.category == 2)))) : pm_lr ad nL (pm_put1 ls i v) LS' := by
  refine ⟨h'.1, by rw [pm_put1_len]; exact h.2.1, h'.2.1, fun k w hk => ?_⟩
  rcases pm_put1_get hi hk with ⟨rfl, rfl⟩ | ⟨h1, h2, h3⟩
  · exact h'.2.2 _ List.mem_cons_self
  · refine h'.2.2 (k, pm_rv ad w) (List.mem_cons_of_mem _ (List.mem_filter.mpr ⟨pm_prs_of h2, ?_⟩))
    show (!(k == i) && !(k + 1 == i && (pm_rv ad w).category == 2)) = true
    rw [pm_rv_cat]
    simp only [Bool.and_eq_true, Bool.not_eq_true', beq_eq_false_iff_ne, ne_eq, Bool.and_eq_false_imp, beq_iff_eq]
    exact ⟨h1, fun q r => h3 ⟨q, r⟩⟩
theorem pm_lr.put2 {ad : Nat → Nat} {nL i : Nat} {ls : pm_L} {LS LS' : Array Slot} {v : Value} (h : pm_lr ad nL ls LS) (hi : i + 1 < ls.length)
    (h' : lv_has LS' nL ((i, pm_rv ad v) :: (pm_prs ad ls).filter (fun q => !(q.1 == i) && (!(q.1 == i + 1) && !(q.1 + 1 == i && q.2.category == 2))))) : pm_lr ad nL (pm_put2 ls i v) LS' := by
  refine ⟨h'.1, by rw [pm_put2_len]; exact h.2.1, h'.2.1, fun k w hk => ?_⟩
  have e : pm_put2 ls i v = (pm_put1 ls i v).set (i + 1) none := by unfold pm_put2 pm_put1; rw [pm_set_eq]
  rw [e] at hk
  by_cases hz : i + 1 = k
  · subst hz
    rw [List.getElem?_set_self (by rw [pm_put1_len]; exact hi)] at hk
    cases hk
  · rw [List.getElem?_set_ne hz] at hk
    rcases pm_put1_get (by omega) hk with ⟨rfl, rfl⟩ | ⟨h1, h2, h3⟩
    · exact h'.2.2 _ List.mem_cons_self
    · refine h'.2.2 (k, pm_rv ad w) (List.mem_cons_of_mem _ (List.mem_filter.mpr ⟨pm_prs_of h2, ?_⟩))
      show (!(k == i) && (!(k == i + 1) && !(k + 1 == i && (pm_rv ad w).category == 2))) = true
      rw [pm_rv_cat]
      simp only [Bool.and_eq_true, Bool.not_eq_true', beq_eq_false_iff_ne, ne_eq, Bool.and_eq_false_imp, beq_iff_eq]
      exact ⟨h1, fun q => hz q.symm, fun q r => h3 ⟨q, r⟩⟩
theorem pm_to_some {z : Int} {K : Nat → pm_R} {o : pm_H × (Option Value ⊕ Unit)} (h : pm_to z K = some o) : ∃ t : Nat, z = (t : Int) ∧ K t = some o := by
  unfold pm_to at h
  split at h
  · rename_i t
    rw [pm_fn_eq] at h
    exact ⟨t, rfl, h⟩
  · cases h
section PmS
variable {p : Program} {l : Launch} {e : Env} {R : Room} {s : State} {m : MethodId} {args : Array Value} {below : List Frame} {meth : Method} {c : Code} {H : Heap} {locs : List Loc} {cells slots : Nat} {Q : State → Prop}
variable {ad : Nat → Nat} {nL pc len : Nat} {ls : pm_L} {st : List Value} {K : Nat → pm_L → List Value → pm_R} {o : pm_H × (Option Value ⊕ Unit)}
/-- the frame of the picture, at every frame of the machine that it is a picture of -/
def pm_J (p : Program) (l : Launch) (e : Env) (R : Room) (s : State) (m : MethodId) (args : Array Value) (below : List Frame) (meth : Method) (c : Code) (H : Heap) (locs : List Loc) (cells slots : Nat) (Q : State → Prop) (ad : Nat → Nat) (nL pc : Nat) (ls : pm_L) (st : List Value) : Prop :=
  ∀ LS : Array Slot, pm_lr ad nL ls LS → W p l e R s m args below meth c H locs cells slots Q (F0 m pc LS (st.map (pm_rv ad)))
theorem pm_jC {v : Value} (row : ∀ (LS : Array Slot) (rest : List Value), W p l e R s m args below meth c H locs cells slots Q (F0 m (pc + len) LS (v :: rest)) → W p l e R s m args below meth c H locs cells slots Q (F0 m pc LS rest)) (hv : pm_rv ad v = v)
    (hK : ∀ q ls st, K q ls st = some o → pm_J p l e R s m args below meth c H locs cells slots Q ad nL q ls st) (h : pm_sC v K pc len ls st = some o) : pm_J p l e R s m args below meth c H locs cells slots Q ad nL pc ls st := by
  intro LS hl
  unfold pm_sC at h
  rw [pm_fn_eq] at h
  have := hK _ _ _ h LS hl
  rw [List.map_cons, hv] at this
  exact row _ _ this
theorem pm_jIld {k : Nat} (row : ∀ (x : Int32) (LS : Array Slot) (rest : List Value), LS[k]? = some (.val (.int x)) → W p l e R s m args below meth c H locs cells slots Q (F0 m (pc + len) LS (.int x :: rest)) → W p l e R s m args below meth c H locs cells slots Q (F0 m pc LS rest))
    (hK : ∀ q ls st, K q ls st = some o → pm_J p l e R s m args below meth c H locs cells slots Q ad nL q ls st) (h : pm_sIld k K pc len ls st = some o) : pm_J p l e R s m args below meth c H locs cells slots Q ad nL pc ls st := by
  intro LS hl
  unfold pm_sIld at h
  split at h
  · rename_i x hx
    rw [pm_fn_eq] at h
    rw [pm_nth_eq] at hx
    exact row _ _ _ (hl.2.2.2 _ _ hx) (hK _ _ _ h LS hl)
  · cases h
theorem pm_jLld {k : Nat} (row : ∀ (x : Int64) (LS : Array Slot) (rest : List Value), LS[k]? = some (.val (.long x)) → W p l e R s m args below meth c H locs cells slots Q (F0 m (pc + len) LS (.long x :: rest)) → W p l e R s m args below meth c H locs cells slots Q (F0 m pc LS rest))
    (hK : ∀ q ls st, K q ls st = some o → pm_J p l e R s m args below meth c H locs cells slots Q ad nL q ls st) (h : pm_sLld k K pc len ls st = some o) : pm_J p l e R s m args below meth c H locs cells slots Q ad nL pc ls st := by
  intro LS hl
  unfold pm_sLld at h
  split at h
  · rename_i x hx
    rw [pm_fn_eq] at h
    rw [pm_nth_eq] at hx
    exact row _ _ _ (hl.2.2.2 _ _ hx) (hK _ _ _ h LS hl)
  · cases h
theorem pm_jAld {k : Nat} (row : ∀ (x : Nat) (LS : Array Slot) (rest : List Value), LS[k]? = some (.val (.ref x)) → W p l e R s m args below meth c H locs cells slots Q (F0 m (pc + len) LS (.ref x :: rest)) → W p l e R s m args below meth c H locs cells slots Q (F0 m pc LS rest))
    (hK : ∀ q ls st, K q ls st = some o → pm_J p l e R s m args below meth c H locs cells slots Q ad nL q ls st) (h : pm_sAld k K pc len ls st = some o) : pm_J p l e R s m args below meth c H locs cells slots Q ad nL pc ls st := by
  intro LS hl
  unfold pm_sAld at h
  split at h
  · rename_i x hx
    rw [pm_fn_eq] at h
    rw [pm_nth_eq] at hx
    exact row _ _ _ (hl.2.2.2 _ _ hx) (hK _ _ _ h LS hl)
  · cases h
theorem pm_jIst {k : Nat} (row : ∀ (x : Int32) (LS : Array Slot) (rest : List Value) (lv : List (Nat × Value)), lv_has LS nL lv → k < nL → (∀ LS' : Array Slot, lv_has LS' nL ((k, Value.int x) :: lv.filter (fun q => !(q.1 == k) && !(q.1 + 1 == k && q.2.category == 2))) → W p l e R s m args below meth c H locs cells slots Q (F0 m (pc + len) LS' rest)) → W p l e R s m args below meth c H locs cells slots Q (F0 m pc LS (.int x :: rest)))
    (hK : ∀ q ls st, K q ls st = some o → pm_J p l e R s m args below meth c H locs cells slots Q ad nL q ls st) (h : pm_sIst k K pc len ls st = some o) : pm_J p l e R s m args below meth c H locs cells slots Q ad nL pc ls st := by
  intro LS hl
  unfold pm_sIst at h
  split at h
  · rename_i x r
    rw [pm_len_eq] at h
    cases hb : Nat.blt k ls.length with
    | false => rw [hb] at h; cases h
    | true =>
      rw [hb, cond_true, pm_fi_eq, pm_fn_eq] at h
      have hk : k < ls.length := Nat.le_of_ble_eq_true hb
      exact row _ _ _ _ hl.has (by rw [← hl.2.1]; exact hk) fun LS' h' => hK _ _ _ h LS' (hl.put1 (v := .int x) hk h')
  · cases h
theorem pm_jAst {k : Nat} (row : ∀ (x : Nat) (LS : Array Slot) (rest : List Value) (lv : List (Nat × Value)), lv_has LS nL lv → k < nL → (∀ LS' : Array Slot, lv_has LS' nL ((k, Value.ref x) :: lv.filter (fun q => !(q.1 == k) && !(q.1 + 1 == k && q.2.category == 2))) → W p l e R s m args below meth c H locs cells slots Q (F0 m (pc + len) LS' rest)) → W p l e R s m args below meth c H locs cells slots Q (F0 m pc LS (.ref x :: rest)))
    (hK : ∀ q ls st, K q ls st = some o → pm_J p l e R s m args below meth c H locs cells slots Q ad nL q ls st) (h : pm_sAst k K pc len ls st = some o) : pm_J p l e R s m args below meth c H locs cells slots Q ad nL pc ls st := by
  intro LS hl
  unfold pm_sAst at h
  split at h
  · rename_i x r
    rw [pm_len_eq] at h
    cases hb : Nat.blt k ls.length with
    | false => rw [hb] at h; cases h
    | true =>
      rw [hb, cond_true, pm_fn_eq] at h
      have hk : k < ls.length := Nat.le_of_ble_eq_true hb
      exact row _ _ _ _ hl.has (by rw [← hl.2.1]; exact hk) fun LS' h' => hK _ _ _ h LS' (hl.put1 (v := .ref x) hk h')
  · cases h
theorem pm_jLst {k : Nat} (row : ∀ (x : Int64) (LS : Array Slot) (rest : List Value) (lv : List (Nat × Value)), lv_has LS nL lv → k + 1 < nL → (∀ LS' : Array Slot, lv_has LS' nL ((k, Value.long x) :: lv.filter (fun q => !(q.1 == k) && (!(q.1 == k + 1) && !(q.1 + 1 == k && q.2.category == 2)))) → W p l e R s m args below meth c H locs cells slots Q (F0 m (pc + len) LS' rest)) → W p l e R s m args below meth c H locs cells slots Q (F0 m pc LS (.long x :: rest)))
    (hK : ∀ q ls st, K q ls st = some o → pm_J p l e R s m args below meth c H locs cells slots Q ad nL q ls st) (h : pm_sLst k K pc len ls st = some o) : pm_J p l e R s m args below meth c H locs cells slots Q ad nL pc ls st := by
  intro LS hl
  unfold pm_sLst at h
  split at h
  · rename_i x r
    rw [pm_len_eq] at h
    cases hb : Nat.blt (k + 1) ls.length with
    | false => rw [hb] at h; cases h
    | true =>
      rw [hb, cond_true, pm_fl_eq, pm_fn_eq] at h
      have hk : k + 1 < ls.length := Nat.le_of_ble_eq_true hb
      exact row _ _ _ _ hl.has (by rw [← hl.2.1]; exact hk) fun LS' h' => hK _ _ _ h LS' (hl.put2 (v := .long x) hk h')
  · cases h
theorem pm_jInc {k : Nat} {n : Int} (row : ∀ (x : Int32) (LS : Array Slot) (rest : List Value) (lv : List (Nat × Value)) (j : Nat), lv_has LS nL lv → lv[j]? = some (k, .int x) → k < nL → (∀ LS' : Array Slot, lv_has LS' nL ((k, Value.int (x + Int32.ofInt n)) :: lv.filter (fun q => !(q.1 == k) && !(q.1 + 1 == k && q.2.category == 2))) → W p l e R s m args below meth c H locs cells slots Q (F0 m (pc + 3) LS' rest)) → W p l e R s m args below meth c H locs cells slots Q (F0 m pc LS rest))
    (hK : ∀ q ls st, K q ls st = some o → pm_J p l e R s m args below meth c H locs cells slots Q ad nL q ls st) (h : pm_sInc k n K pc len ls st = some o) : pm_J p l e R s m args below meth c H locs cells slots Q ad nL pc ls st := by
  intro LS hl
  unfold pm_sInc at h
  split at h
  · rename_i x hx
    rw [pm_nth_eq] at hx
    cases hb : Nat.beq len 3 with
    | false => rw [hb] at h; cases h
    | true =>
      rw [hb, cond_true, pm_fi_eq, pm_fn_eq, Nat.eq_of_beq_eq_true hb] at h
      have hk : k < ls.length := (List.getElem?_eq_some_iff.mp hx).1
      obtain ⟨j, hj⟩ := List.getElem?_of_mem (pm_prs_of (ad := ad) hx)
      exact row x _ _ _ j hl.has hj (by rw [← hl.2.1]; exact hk) fun LS' h' => hK _ _ _ h LS' (hl.put1 (v := .int (x + Int32.ofInt n)) hk h')
  · cases h
theorem pm_jII {f : Int32 → Int32 → Int32} (row : ∀ (x y : Int32) (LS : Array Slot) (rest : List Value), W p l e R s m args below meth c H locs cells slots Q (F0 m (pc + len) LS (.int (f x y) :: rest)) → W p l e R s m args below meth c H locs cells slots Q (F0 m pc LS (.int y :: .int x :: rest)))
    (hK : ∀ q ls st, K q ls st = some o → pm_J p l e R s m args below meth c H locs cells slots Q ad nL q ls st) (h : pm_sII f K pc len ls st = some o) : pm_J p l e R s m args below meth c H locs cells slots Q ad nL pc ls st := by
  intro LS hl
  unfold pm_sII at h
  split at h
  · rw [pm_fn_eq] at h
    exact row _ _ _ _ (hK _ _ _ h LS hl)
  · cases h
theorem pm_jIIz {f : Int32 → Int32 → Int32} (row : ∀ (x y : Int32) (LS : Array Slot) (rest : List Value), ¬ y = 0 → W p l e R s m args below meth c H locs cells slots Q (F0 m (pc + len) LS (.int (f x y) :: rest)) → W p l e R s m args below meth c H locs cells slots Q (F0 m pc LS (.int y :: .int x :: rest)))
    (hK : ∀ q ls st, K q ls st = some o → pm_J p l e R s m args below meth c H locs cells slots Q ad nL q ls st) (h : pm_sIIz f K pc len ls st = some o) : pm_J p l e R s m args below meth c H locs cells slots Q ad nL pc ls st := by
  intro LS hl
  unfold pm_sIIz at h
  split at h
  · rename_i y x r
    by_cases hy : y = 0
    · rw [decide_eq_true hy] at h; cases h
    · rw [decide_eq_false hy, cond_false, pm_fn_eq] at h
      exact row _ _ _ _ hy (hK _ _ _ h LS hl)
  · cases h
theorem pm_jI {f : Int32 → Int32} (row : ∀ (x : Int32) (LS : Array Slot) (rest : List Value), W p l e R s m args below meth c H locs cells slots Q (F0 m (pc + len) LS (.int (f x) :: rest)) → W p l e R s m args below meth c H locs cells slots Q (F0 m pc LS (.int x :: rest)))
    (hK : ∀ q ls st, K q ls st = some o → pm_J p l e R s m args below meth c H locs cells slots Q ad nL q ls st) (h : pm_sI f K pc len ls st = some o) : pm_J p l e R s m args below meth c H locs cells slots Q ad nL pc ls st := by
  intro LS hl
  unfold pm_sI at h
  split at h
  · rw [pm_fn_eq] at h
    exact row _ _ _ (hK _ _ _ h LS hl)
  · cases h
theorem pm_jLL {f : Int64 → Int64 → Int64} (row : ∀ (x y : Int64) (LS : Array Slot) (rest : List Value), W p l e R s m args below meth c H locs cells slots Q (F0 m (pc + len) LS (.long (f x y) :: rest)) → W p l e R s m args below meth c H locs cells slots Q (F0 m pc LS (.long y :: .long x :: rest)))
    (hK : ∀ q ls st, K q ls st = some o → pm_J p l e R s m args below meth c H locs cells slots Q ad nL q ls st) (h : pm_sLL f K pc len ls st = some o) : pm_J p l e R s m args below meth c H locs cells slots Q ad nL pc ls st := by
  intro LS hl
  unfold pm_sLL at h
  split at h
  · rw [pm_fn_eq] at h
    exact row _ _ _ _ (hK _ _ _ h LS hl)
  · cases h
theorem pm_jLLz {f : Int64 → Int64 → Int64} (row : ∀ (x y : Int64) (LS : Array Slot) (rest : List Value), ¬ y = 0 → W p l e R s m args below meth c H locs cells slots Q (F0 m (pc + len) LS (.long (f x y) :: rest)) → W p l e R s m args below meth c H locs cells slots Q (F0 m pc LS (.long y :: .long x :: rest)))
    (hK : ∀ q ls st, K q ls st = some o → pm_J p l e R s m args below meth c H locs cells slots Q ad nL q ls st) (h : pm_sLLz f K pc len ls st = some o) : pm_J p l e R s m args below meth c H locs cells slots Q ad nL pc ls st := by
  intro LS hl
  unfold pm_sLLz at h
  split at h
  · rename_i y x r
    by_cases hy : y = 0
    · rw [decide_eq_true hy] at h; cases h
    · rw [decide_eq_false hy, cond_false, pm_fn_eq] at h
      exact row _ _ _ _ hy (hK _ _ _ h LS hl)
  · cases h
theorem pm_jLI {f : Int64 → Int32 → Int64} (row : ∀ (x : Int64) (y : Int32) (LS : Array Slot) (rest : List Value), W p l e R s m args below meth c H locs cells slots Q (F0 m (pc + len) LS (.long (f x y) :: rest)) → W p l e R s m args below meth c H locs cells slots Q (F0 m pc LS (.int y :: .long x :: rest)))
    (hK : ∀ q ls st, K q ls st = some o → pm_J p l e R s m args below meth c H locs cells slots Q ad nL q ls st) (h : pm_sLI f K pc len ls st = some o) : pm_J p l e R s m args below meth c H locs cells slots Q ad nL pc ls st := by
  intro LS hl
  unfold pm_sLI at h
  split at h
  · rw [pm_fn_eq] at h
    exact row _ _ _ _ (hK _ _ _ h LS hl)
  · cases h
theorem pm_jL {f : Int64 → Int64} (row : ∀ (x : Int64) (LS : Array Slot) (rest : List Value), W p l e R s m args below meth c H locs cells slots Q (F0 m (pc + len) LS (.long (f x) :: rest)) → W p l e R s m args below meth c H locs cells slots Q (F0 m pc LS (.long x :: rest)))
    (hK : ∀ q ls st, K q ls st = some o → pm_J p l e R s m args below meth c H locs cells slots Q ad nL q ls st) (h : pm_sL f K pc len ls st = some o) : pm_J p l e R s m args below meth c H locs cells slots Q ad nL pc ls st := by
  intro LS hl
  unfold pm_sL at h
  split at h
  · rw [pm_fn_eq] at h
    exact row _ _ _ (hK _ _ _ h LS hl)
  · cases h
theorem pm_jIL {f : Int32 → Int64} (row : ∀ (x : Int32) (LS : Array Slot) (rest : List Value), W p l e R s m args below meth c H locs cells slots Q (F0 m (pc + len) LS (.long (f x) :: rest)) → W p l e R s m args below meth c H locs cells slots Q (F0 m pc LS (.int x :: rest)))
    (hK : ∀ q ls st, K q ls st = some o → pm_J p l e R s m args below meth c H locs cells slots Q ad nL q ls st) (h : pm_sIL f K pc len ls st = some o) : pm_J p l e R s m args below meth c H locs cells slots Q ad nL pc ls st := by
  intro LS hl
  unfold pm_sIL at h
  split at h
  · rw [pm_fn_eq] at h
    exact row _ _ _ (hK _ _ _ h LS hl)
  · cases h
theorem pm_jLi {f : Int64 → Int32} (row : ∀ (x : Int64) (LS : Array Slot) (rest : List Value), W p l e R s m args below meth c H locs cells slots Q (F0 m (pc + len) LS (.int (f x) :: rest)) → W p l e R s m args below meth c H locs cells slots Q (F0 m pc LS (.long x :: rest)))
    (hK : ∀ q ls st, K q ls st = some o → pm_J p l e R s m args below meth c H locs cells slots Q ad nL q ls st) (h : pm_sLi f K pc len ls st = some o) : pm_J p l e R s m args below meth c H locs cells slots Q ad nL pc ls st := by
  intro LS hl
  unfold pm_sLi at h
  split at h
  · rw [pm_fn_eq] at h
    exact row _ _ _ (hK _ _ _ h LS hl)
  · cases h
theorem pm_jCmp (row : ∀ (x y : Int64) (LS : Array Slot) (rest : List Value), W p l e R s m args below meth c H locs cells slots Q (F0 m (pc + len) LS (.int (lg_cmp x y) :: rest)) → W p l e R s m args below meth c H locs cells slots Q (F0 m pc LS (.long y :: .long x :: rest)))
    (hK : ∀ q ls st, K q ls st = some o → pm_J p l e R s m args below meth c H locs cells slots Q ad nL q ls st) (h : pm_sCmp K pc len ls st = some o) : pm_J p l e R s m args below meth c H locs cells slots Q ad nL pc ls st := by
  intro LS hl
  unfold pm_sCmp at h
  split at h
  · rw [pm_fn_eq] at h
    exact row _ _ _ _ (hK _ _ _ h LS hl)
  · cases h
theorem pm_jDup (row : ∀ (v : Value) (LS : Array Slot) (rest : List Value), v.category = 1 → W p l e R s m args below meth c H locs cells slots Q (F0 m (pc + len) LS (v :: v :: rest)) → W p l e R s m args below meth c H locs cells slots Q (F0 m pc LS (v :: rest)))
    (hK : ∀ q ls st, K q ls st = some o → pm_J p l e R s m args below meth c H locs cells slots Q ad nL q ls st) (h : pm_sDup K pc len ls st = some o) : pm_J p l e R s m args below meth c H locs cells slots Q ad nL pc ls st := by
  intro LS hl
  unfold pm_sDup at h
  split at h
  · rename_i v r
    cases hb : Nat.beq v.category 1 with
    | false => rw [hb] at h; cases h
    | true =>
      rw [hb, cond_true, pm_fn_eq] at h
      exact row _ _ _ (by rw [pm_rv_cat]; exact Nat.eq_of_beq_eq_true hb) (hK _ _ _ h LS hl)
  · cases h
theorem pm_jPop (row : ∀ (v : Value) (LS : Array Slot) (rest : List Value), v.category = 1 → W p l e R s m args below meth c H locs cells slots Q (F0 m (pc + len) LS rest) → W p l e R s m args below meth c H locs cells slots Q (F0 m pc LS (v :: rest)))
    (hK : ∀ q ls st, K q ls st = some o → pm_J p l e R s m args below meth c H locs cells slots Q ad nL q ls st) (h : pm_sPop K pc len ls st = some o) : pm_J p l e R s m args below meth c H locs cells slots Q ad nL pc ls st := by
  intro LS hl
  unfold pm_sPop at h
  split at h
  · rename_i v r
    cases hb : Nat.beq v.category 1 with
    | false => rw [hb] at h; cases h
    | true =>
      rw [hb, cond_true, pm_fn_eq] at h
      exact row _ _ _ (by rw [pm_rv_cat]; exact Nat.eq_of_beq_eq_true hb) (hK _ _ _ h LS hl)
  · cases h
theorem pm_jIf {cd : ClassFile.Cond} {off : Int} (row : ∀ (x : Int32) (LS : Array Slot) (rest : List Value) (t : Nat), (pc : Int) + off = (t : Int) → (pm_cnd cd x 0 = true → W p l e R s m args below meth c H locs cells slots Q (F0 m t LS rest)) → (pm_cnd cd x 0 = false → W p l e R s m args below meth c H locs cells slots Q (F0 m (pc + 3) LS rest)) → W p l e R s m args below meth c H locs cells slots Q (F0 m pc LS (.int x :: rest)))
    (hK : ∀ q ls st, K q ls st = some o → pm_J p l e R s m args below meth c H locs cells slots Q ad nL q ls st) (h : pm_sIf cd off K pc len ls st = some o) : pm_J p l e R s m args below meth c H locs cells slots Q ad nL pc ls st := by
  intro LS hl
  unfold pm_sIf at h
  split at h
  · rename_i x r
    obtain ⟨t, ht, h⟩ := pm_to_some h
    refine row x LS _ t ht (fun hc => ?_) (fun hc => ?_)
    · rw [hc, cond_true] at h
      exact hK _ _ _ h LS hl
    · rw [hc, cond_false, pm_fn_eq] at h
      exact hK _ _ _ h LS hl
  · cases h
theorem pm_jIf2 {cd : ClassFile.Cond} {off : Int} (row : ∀ (x y : Int32) (LS : Array Slot) (rest : List Value) (t : Nat), (pc : Int) + off = (t : Int) → (pm_cnd cd x y = true → W p l e R s m args below meth c H locs cells slots Q (F0 m t LS rest)) → (pm_cnd cd x y = false → W p l e R s m args below meth c H locs cells slots Q (F0 m (pc + 3) LS rest)) → W p l e R s m args below meth c H locs cells slots Q (F0 m pc LS (.int y :: .int x :: rest)))
    (hK : ∀ q ls st, K q ls st = some o → pm_J p l e R s m args below meth c H locs cells slots Q ad nL q ls st) (h : pm_sIf2 cd off K pc len ls st = some o) : pm_J p l e R s m args below meth c H locs cells slots Q ad nL pc ls st := by
  intro LS hl
  unfold pm_sIf2 at h
  split at h
  · rename_i y x r
    obtain ⟨t, ht, h⟩ := pm_to_some h
    refine row x y LS _ t ht (fun hc => ?_) (fun hc => ?_)
    · rw [hc, cond_true] at h
      exact hK _ _ _ h LS hl
    · rw [hc, cond_false, pm_fn_eq] at h
      exact hK _ _ _ h LS hl
  · cases h
theorem pm_jGo {off : Int} (row : ∀ (LS : Array Slot) (rest : List Value) (t : Nat), (pc : Int) + off = (t : Int) → W p l e R s m args below meth c H locs cells slots Q (F0 m t LS rest) → W p l e R s m args below meth c H locs cells slots Q (F0 m pc LS rest))
    (hK : ∀ q ls st, K q ls st = some o → pm_J p l e R s m args below meth c H locs cells slots Q ad nL q ls st) (h : pm_sGo off K pc len ls st = some o) : pm_J p l e R s m args below meth c H locs cells slots Q ad nL pc ls st := by
  intro LS hl
  unfold pm_sGo at h
  obtain ⟨t, ht, h⟩ := pm_to_some h
  exact row LS _ t ht (hK _ _ _ h LS hl)
theorem pm_jTsw {d lo hi : Int} {offs : Array Int} {cc : ByteArray} (hx : p.tables.exec = Jvm.exec) (hb : c.code = cc) (hd : decode cc pc = .ok (.tableswitch d lo hi offs, len))
    (hK : ∀ q ls st, K q ls st = some o → pm_J p l e R s m args below meth c H locs cells slots Q ad nL q ls st) (h : pm_sTsw d lo hi offs K pc len ls st = some o) : pm_J p l e R s m args below meth c H locs cells slots Q ad nL pc ls st := by
  intro LS hl
  unfold pm_sTsw at h
  split at h
  · rename_i x r
    unfold pm_tsw at h
    split at h
    · rename_i hc
      obtain ⟨t, ht, h⟩ := pm_to_some h
      exact lv_tableOut hx hb hd hc ht (hK _ _ _ h LS hl)
    · rename_i hc
      split at h
      · rename_i o2 ho
        obtain ⟨t, ht, h⟩ := pm_to_some h
        rw [pm_nth_eq] at ho
        exact lv_tableIn hx hb hd (fun q => hc (Or.inl q)) (fun q => hc (Or.inr q)) (by rw [← Array.getElem?_toList]; exact ho) ht (hK _ _ _ h LS hl)
      · cases h
  · cases h
theorem pm_jLsw {d : Int} {ps : Array (Int × Int)} {cc : ByteArray} (hx : p.tables.exec = Jvm.exec) (hb : c.code = cc) (hd : decode cc pc = .ok (.lookupswitch d ps, len))
    (hK : ∀ q ls st, K q ls st = some o → pm_J p l e R s m args below meth c H locs cells slots Q ad nL q ls st) (h : pm_sLsw d ps K pc len ls st = some o) : pm_J p l e R s m args below meth c H locs cells slots Q ad nL pc ls st := by
  intro LS hl
  unfold pm_sLsw at h
  split at h
  · rename_i x r
    cases hp : (ps.toList.zip (ps.toList.drop 1)).all (fun (a, next) => a.1 < next.1) with
    | false => rw [hp] at h; cases h
    | true =>
      rw [hp, cond_true] at h
      obtain ⟨t, ht, h⟩ := pm_to_some h
      exact lv_lookup hx hb hd hp rfl ht (hK _ _ _ h LS hl)
  · cases h
theorem pm_rowIf {cc : ByteArray} (hx : p.tables.exec = Jvm.exec) (hb : c.code = cc) {cd : ClassFile.Cond} {off : Int} (hd : decode cc pc = .ok (.ifCond cd off, 3)) (x : Int32) (LS : Array Slot) (rest : List Value) (t : Nat) (ht : (pc : Int) + off = (t : Int)) (k1 : pm_cnd cd x 0 = true → W p l e R s m args below meth c H locs cells slots Q (F0 m t LS rest)) (k2 : pm_cnd cd x 0 = false → W p l e R s m args below meth c H locs cells slots Q (F0 m (pc + 3) LS rest)) : W p l e R s m args below meth c H locs cells slots Q (F0 m pc LS (.int x :: rest)) := by
  cases cd with
  | eq => exact lv_if_eq hx hb hd ht (fun h => k1 (decide_eq_true h)) (fun h => k2 (decide_eq_false h))
  | ne => exact lv_if_ne hx hb hd ht (fun h => k1 (by show (!decide (x = 0)) = true; rw [decide_eq_false h]; rfl)) (fun h => k2 (by show (!decide (x = 0)) = false; rw [decide_eq_true h]; rfl))
  | lt => exact lv_if_lt hx hb hd ht (fun h => k1 (decide_eq_true h)) (fun h => k2 (decide_eq_false h))
  | ge => exact lv_if_ge hx hb hd ht (fun h => k1 (decide_eq_true h)) (fun h => k2 (decide_eq_false h))
  | gt => exact lv_if_gt hx hb hd ht (fun h => k1 (decide_eq_true h)) (fun h => k2 (decide_eq_false h))
  | le => exact lv_if_le hx hb hd ht (fun h => k1 (decide_eq_true h)) (fun h => k2 (decide_eq_false h))
theorem pm_rowIf2 {cc : ByteArray} (hx : p.tables.exec = Jvm.exec) (hb : c.code = cc) {cd : ClassFile.Cond} {off : Int} (hd : decode cc pc = .ok (.if_icmp cd off, 3)) (x y : Int32) (LS : Array Slot) (rest : List Value) (t : Nat) (ht : (pc : Int) + off = (t : Int)) (k1 : pm_cnd cd x y = true → W p l e R s m args below meth c H locs cells slots Q (F0 m t LS rest)) (k2 : pm_cnd cd x y = false → W p l e R s m args below meth c H locs cells slots Q (F0 m (pc + 3) LS rest)) : W p l e R s m args below meth c H locs cells slots Q (F0 m pc LS (.int y :: .int x :: rest)) := by
  cases cd with
  | eq => exact lv_icmp_eq hx hb hd ht (fun h => k1 (decide_eq_true h)) (fun h => k2 (decide_eq_false h))
  | ne => exact lv_icmp_ne hx hb hd ht (fun h => k1 (by show (!decide (x = y)) = true; rw [decide_eq_false h]; rfl)) (fun h => k2 (by show (!decide (x = y)) = false; rw [decide_eq_true h]; rfl))
  | lt => exact lv_icmp_lt hx hb hd ht (fun h => k1 (decide_eq_true h)) (fun h => k2 (decide_eq_false h))
  | ge => exact lv_icmp_ge hx hb hd ht (fun h => k1 (decide_eq_true h)) (fun h => k2 (decide_eq_false h))
  | gt => exact lv_icmp_gt hx hb hd ht (fun h => k1 (decide_eq_true h)) (fun h => k2 (decide_eq_false h))
  | le => exact lv_icmp_le hx hb hd ht (fun h => k1 (decide_eq_true h)) (fun h => k2 (decide_eq_false h))
end PmS
end
section
/-! soundness, the heap: what a picture is a picture of -/
def pm_iv (v : Value) : Int32 := match v with
  | .int x => x
  | _ => 0
def pm_gv (v : Value) : Int64 := match v with
  | .long x => x
  | _ => 0
def pm_qv (ad : Nat → Nat) (v : Value) : Option Nat := match v with
  | .ref a => some (ad a)
  | _ => none
def pm_ct (ad : Nat → Nat) (t : Nat) (l : List Value) : (Nat → Int32) ⊕ (Nat → Int64) ⊕ (Nat → UInt32) ⊕ (Nat → UInt64) ⊕ (Nat → Option Nat) :=
  if t = 3 then .inr (.inl (fun j => pm_gv (l.getD j .null))) else if t < 5 then .inl (fun j => pm_iv (l.getD j .null)) else .inr (.inr (.inr (.inr (fun j => pm_qv ad (l.getD j .null)))))
theorem pm_ct3 (ad : Nat → Nat) (l : List Value) : pm_ct ad 3 l = .inr (.inl (fun j => pm_gv (l.getD j .null))) := by simp [pm_ct]
theorem pm_ctI (ad : Nat → Nat) {t : Nat} (l : List Value) (h3 : t ≠ 3) (h5 : t < 5) : pm_ct ad t l = .inl (fun j => pm_iv (l.getD j .null)) := by simp [pm_ct, h3, h5]
theorem pm_ctQ (ad : Nat → Nat) {t : Nat} (l : List Value) (h5 : 5 ≤ t) : pm_ct ad t l = .inr (.inr (.inr (.inr (fun j => pm_qv ad (l.getD j .null))))) := by
  have h3 : t ≠ 3 := by omega
  have h : ¬ t < 5 := by omega
  simp [pm_ct, h3, h]
def pm_re (ad : Nat → Nat) (cA : Nat → ClassId) (c : pm_C) : va_E := match c with
  | .inl q => .inl (cA q.1, q.2.length, pm_ct ad q.1 q.2)
  | .inr q => .inr (q.1, q.2.map (pm_rv ad))
def pm_ws (ad : Nat → Nat) (cA : Nat → ClassId) (h : pm_H) : va_W := h.mapIdx (fun k c => (ad (16 + k), pm_re ad cA c))
theorem pm_ws_get (ad : Nat → Nat) (cA : Nat → ClassId) (h : pm_H) (k : Nat) : (pm_ws ad cA h)[k]? = (h[k]?).map (fun c => (ad (16 + k), pm_re ad cA c)) := by
  unfold pm_ws
  rw [List.getElem?_mapIdx]
theorem pm_ws_at {ad : Nat → Nat} {cA : Nat → ClassId} {h : pm_H} {k : Nat} {c : pm_C} (hk : h[k]? = some c) : (pm_ws ad cA h)[k]? = some (ad (16 + k), pm_re ad cA c) := by
  rw [pm_ws_get, hk]; rfl
theorem pm_ws_set {ad : Nat → Nat} {cA : Nat → ClassId} {h : pm_H} {k : Nat} {c : pm_C} (hk : k < h.length) : pm_ws ad cA (h.set k c) = (pm_ws ad cA h).set k (ad (16 + k), pm_re ad cA c) := by
  apply List.ext_getElem?
  intro j
  rw [pm_ws_get]
  by_cases hj : k = j
  · subst hj
    rw [List.getElem?_set_self hk, List.getElem?_set_self (by unfold pm_ws; simpa using hk)]
    rfl
  · rw [List.getElem?_set_ne hj, List.getElem?_set_ne hj, pm_ws_get]
theorem pm_ws_push (ad : Nat → Nat) (cA : Nat → ClassId) (h : pm_H) (c : pm_C) : pm_ws ad cA (h ++ [c]) = pm_ws ad cA h ++ [(ad (16 + h.length), pm_re ad cA c)] := by
  unfold pm_ws
  rw [List.mapIdx_append]
  simp
/-- the classes of the arrays, by the type codes -/
def pm_tys (cA : Nat → ClassId) : List (ClassId × FieldType) := [(cA 0, .int), (cA 1, .boolean), (cA 2, .char), (cA 3, .long), (cA 4, .byte), (cA 0, .int), (cA 0, .int), (cA 0, .int), (cA 8, .object RX3), (cA 0, .int), (cA 0, .int), (cA 0, .int), (cA 12, .object RX7)]
/-- h is a picture of the cells of H that lie in A; the places to come are the addresses to come -/
def pm_rel (D : va_G) (cA : Nat → ClassId) (A : Nat → Prop) (ad : Nat → Nat) (h : pm_H) (H : Heap) : Prop :=
  va_P D vwCl (pm_ws ad cA h) H ∧ va_D A (pm_ws ad cA h) ∧ ∀ j : Nat, ad (16 + h.length + j) = H.size + j
theorem pm_cell_some {h : pm_H} {a : Nat} {c : pm_C} (hc : pm_cell h a = some c) : ∃ k, a = 16 + k ∧ a - 16 = k ∧ h[k]? = some c := by
  unfold pm_cell at hc
  cases hb : Nat.blt a 16 with
  | true => rw [hb] at hc; cases hc
  | false =>
    rw [hb, cond_false, pm_nth_eq] at hc
    have h16 : ¬ a < 16 := fun q => by
      have : Nat.blt a 16 = true := Nat.ble_eq_true_of_le q
      rw [this] at hb; cases hb
    exact ⟨a - 16, by omega, rfl, hc⟩
/-- the size of the heap when the cells that were made are counted -/
theorem pm_up {p : Program} {l : Launch} {e : Env} {R : Room} {s : State} {m : MethodId} {args : Array Value} {below : List Frame} {meth : Method} {c : Code} {H : Heap} {locs : List Loc} {cells slots : Nat} {Q : State → Prop} {g : JFrame} (k : H.size ≤ s.heap.size + cells → W p l e R s m args below meth c H locs cells slots Q g) : W p l e R s m args below meth c H locs cells slots Q g :=
  fun T hT X => k (by rw [← hT]; exact X.heapSize) T hT X
theorem pm_S_trans {A : Nat → Prop} {H0 H H1 : Heap} {L L1 : List Loc} (h : va_S A H0 H L) (h1 : va_S A H H1 L1) : va_S A H0 H1 L1 :=
  ⟨Nat.le_trans h.1 h1.1, fun q hq hA => (h1.2.1 q (Nat.lt_of_lt_of_le hq h.1) hA).trans (h.2.1 q hq hA), h1.2.2⟩
theorem pm_S_self {A : Nat → Prop} {H0 H : Heap} {L : List Loc} (h : va_S A H0 H L) : va_S A H H L := ⟨Nat.le_refl _, fun _ _ _ => rfl, h.2.2⟩
/-- a store: the same cells, one changed; the heap's size is the old one -/
theorem pm_rel.stored {D : va_G} {cA : Nat → ClassId} {A : Nat → Prop} {ad : Nat → Nat} {h : pm_H} {H H1 : Heap} {k : Nat} {c : pm_C} (hr : pm_rel D cA A ad h H) (hk : k < h.length) (hP : va_P D vwCl ((pm_ws ad cA h).set k (ad (16 + k), pm_re ad cA c)) H1) (hD : va_D A ((pm_ws ad cA h).set k (ad (16 + k), pm_re ad cA c))) (hz : H1.size = H.size) : pm_rel D cA A ad (h.set k c) H1 := by
  rw [← pm_ws_set hk] at hP hD
  exact ⟨hP, hD, fun j => by rw [List.length_set, hz]; exact hr.2.2 j⟩
/-- a new cell at the heap's end -/
theorem pm_rel.made {D : va_G} {cA : Nat → ClassId} {A : Nat → Prop} {ad : Nat → Nat} {h : pm_H} {H H1 : Heap} {c : pm_C} (hr : pm_rel D cA A ad h H) (hA : A H.size) (hz : H1.size = H.size + 1) (ho : ∀ q, q < H.size → H1[q]? = H[q]?) (hc : va_at D vwCl (H.size, pm_re ad cA c) H1) : pm_rel D cA A ad (h ++ [c]) H1 := by
  have ha : ad (16 + h.length) = H.size := hr.2.2 0
  refine ⟨?_, ?_, fun j => ?_⟩
  · rw [pm_ws_push, ha]
    refine (hr.1.kept fun k x hx => ho x.1 ((hr.1 k x hx).lt)).app (fun k x hx => ?_)
    have hk : k < 1 := (List.getElem?_eq_some_iff.mp hx).1
    rw [show k = 0 by omega] at hx
    cases hx
    exact hc
  · rw [pm_ws_push, ha]
    exact hr.2.1.push hr.1 rfl hA
  · rw [List.length_append]
    have := hr.2.2 (j + 1)
    show ad (16 + (h.length + 1) + j) = _
    rw [show 16 + (h.length + 1) + j = 16 + h.length + (j + 1) by omega, this, hz]
    omega
theorem pm_row_own {X : List (Nat × List Value)} {h : pm_H} {a t : Nat} {l : List Value} (hr : pm_row X h a = some (t, l)) : (a < 16 ∧ X[a]? = some (t, l) ∧ t = 0) ∨ ∃ k, a = 16 + k ∧ h[k]? = some (.inl (t, l)) := by
  unfold pm_row at hr
  cases hb : Nat.blt a 16 with
  | true =>
    rw [hb, cond_true] at hr
    split at hr
    · rename_i q hq
      rw [pm_nth_eq] at hq
      cases h0 : Nat.beq q.1 0 with
      | false => rw [h0] at hr; cases hr
      | true =>
        rw [h0, cond_true] at hr
        cases hr
        exact Or.inl ⟨Nat.le_of_ble_eq_true hb, hq, Nat.eq_of_beq_eq_true h0⟩
    · cases hr
  | false =>
    rw [hb, cond_false] at hr
    have h16 : ¬ a < 16 := fun q => by
      have : Nat.blt a 16 = true := Nat.ble_eq_true_of_le q
      rw [this] at hb; cases hb
    split at hr
    · rename_i q hq
      rw [pm_nth_eq] at hq
      cases hr
      exact Or.inr ⟨a - 16, by omega, hq⟩
    · cases hr
theorem pm_len_lt {α : Type} {l : List α} {k : Nat} {a : α} (h : l[k]? = some a) : k < l.length := (List.getElem?_eq_some_iff.mp h).1
theorem pm_in_of {i : Int32} {n : Nat} (h : pm_in i n = true) : vp_in i n := by
  unfold pm_in at h
  by_cases hi : i < 0
  · rw [decide_eq_true hi] at h; cases h
  · rw [decide_eq_false hi, cond_false] at h
    have h2 : i.toNatClampNeg < n := Nat.le_of_ble_eq_true h
    rintro (q | q)
    · exact hi q
    · omega
theorem pm_in_lt {i : Int32} {n : Nat} (h : pm_in i n = true) : i.toNatClampNeg < n := by
  unfold pm_in at h
  by_cases hi : i < 0
  · rw [decide_eq_true hi] at h; cases h
  · rw [decide_eq_false hi, cond_false] at h
    exact Nat.le_of_ble_eq_true h
theorem pm_upI (l : List Value) (j : Nat) (x : Int32) (hj : j < l.length) : upd (fun j => pm_iv (l.getD j .null)) j x = fun k => pm_iv ((l.set j (.int x)).getD k .null) := by
  funext k
  unfold upd
  by_cases hk : k = j
  · subst hk
    simp [List.getD_eq_getElem?_getD, List.getElem?_set_self hj, pm_iv]
  · simp [List.getD_eq_getElem?_getD, List.getElem?_set_ne (Ne.symm hk), hk]
theorem pm_upL (l : List Value) (j : Nat) (x : Int64) (hj : j < l.length) : vp_updL (fun j => pm_gv (l.getD j .null)) j x = fun k => pm_gv ((l.set j (.long x)).getD k .null) := by
  funext k
  unfold vp_updL
  by_cases hk : k = j
  · subst hk
    simp [List.getD_eq_getElem?_getD, List.getElem?_set_self hj, pm_gv]
  · simp [List.getD_eq_getElem?_getD, List.getElem?_set_ne (Ne.symm hk), hk]
theorem pm_upQ (ad : Nat → Nat) (l : List Value) (j x : Nat) (hj : j < l.length) : va_up (fun j => pm_qv ad (l.getD j .null)) j (some (ad x)) = fun k => pm_qv ad ((l.set j (.ref x)).getD k .null) := by
  funext k
  unfold va_up
  by_cases hk : k = j
  · subst hk
    simp [List.getD_eq_getElem?_getD, List.getElem?_set_self hj, pm_qv]
  · simp [List.getD_eq_getElem?_getD, List.getElem?_set_ne (Ne.symm hk), hk]
theorem pm_getI {l : List Value} {j : Nat} {x : Int32} (h : l[j]? = some (.int x)) : pm_iv (l.getD j .null) = x := by simp [List.getD_eq_getElem?_getD, h, pm_iv]
theorem pm_getL {l : List Value} {j : Nat} {x : Int64} (h : l[j]? = some (.long x)) : pm_gv (l.getD j .null) = x := by simp [List.getD_eq_getElem?_getD, h, pm_gv]
theorem pm_getQ {ad : Nat → Nat} {l : List Value} {j x : Nat} (h : l[j]? = some (.ref x)) : pm_qv ad (l.getD j .null) = some (ad x) := by simp [List.getD_eq_getElem?_getD, h, pm_qv]
theorem pm_cpy_get (src dst : List Value) (sp dp n k : Nat) (hs : sp + n ≤ src.length) (hd : dp + n ≤ dst.length) : (pm_cpy src dst sp dp n)[k]? = if dp ≤ k ∧ k < dp + n then src[sp + (k - dp)]? else dst[k]? := by
  unfold pm_cpy
  have e1 : (dst.take dp).length = dp := by rw [List.length_take]; omega
  have e2 : ((src.drop sp).take n).length = n := by rw [List.length_take, List.length_drop]; omega
  by_cases h1 : k < dp
  · rw [List.getElem?_append_left (by omega), List.getElem?_take_of_lt h1, if_neg (by omega)]
  · rw [List.getElem?_append_right (by omega), e1]
    by_cases h2 : k < dp + n
    · rw [List.getElem?_append_left (by omega), List.getElem?_take_of_lt (by omega), List.getElem?_drop, if_pos ⟨by omega, h2⟩]
    · rw [List.getElem?_append_right (by omega), e2, List.getElem?_drop, if_neg (by omega)]
      congr 1
      omega
theorem pm_cpy_len (src dst : List Value) (sp dp n : Nat) (hs : sp + n ≤ src.length) (hd : dp + n ≤ dst.length) : (pm_cpy src dst sp dp n).length = dst.length := by
  unfold pm_cpy
  simp only [List.length_append, List.length_take, List.length_drop]
  omega
theorem pm_cpyF {α : Type} (f : Value → α) (src dst : List Value) (sp dp n : Nat) (hs : sp + n ≤ src.length) (hd : dp + n ≤ dst.length) : va_cpy (fun j => f (src.getD j .null)) (fun j => f (dst.getD j .null)) sp dp n = fun k => f ((pm_cpy src dst sp dp n).getD k .null) := by
  funext k
  unfold va_cpy
  simp only [List.getD_eq_getElem?_getD]
  rw [pm_cpy_get _ _ _ _ _ _ hs hd]
  split <;> rfl
end
section
/-! soundness, the frame: what holds of a method's own start (s), and the instructions that read and write the heap -/
def pm_NW : List Cond := tables_1.filter (fun w => match w with
  | .methodLinkNest _ _ _ _ => true
  | .declares _ => true
  | .castable _ _ => true
  | _ => false)
/-- an int array that is there at the start and that nobody writes -/
def pm_ex (A : Nat → Prop) (ad : Nat → Nat) (U : State) (a : Nat) (l : List Value) : Prop := ∃ cell : Cell, U.heap[ad a]? = some cell ∧ U.isArrayOf cell .int ∧ cell.vm ≠ .unknown ∧ cell.slots.size = l.length ∧ (∀ (j : Nat) (v : Value), l[j]? = some v → cell.slots[j]? = some v) ∧ ¬ A (ad a)
/-- what a method's start gives: classes, links across the nest, what is there at the start -/
def pm_Cx (D : va_G) (cA : Nat → ClassId) (A : Nat → Prop) (ad : Nat → Nat) (X : List (Nat × List Value)) (U : State) : Prop :=
  va_K D vwCl (pm_tys cA) U ∧ (∀ w ∈ pm_NW, va_Nw w U) ∧ (∀ C ∈ [RX3, RX7], va_AO C U) ∧ (∀ (a : Nat) (l : List Value), a < 16 → X[a]? = some (0, l) → pm_ex A ad U a l) ∧
  (∀ a : Nat, 1 ≤ a → a ≤ 3 → va_Z (pm_stn a).1 (pm_stn a).2 "[I" (.ref (ad a)) A U U.heap) ∧ (∀ q ∈ pm_strs, vk_R (pm_nm q.1) q.2.1 q.2.2.1 (ad q.2.2.2) U) ∧
  vx_Zq Bundle.tN "UNASSIGNED_STACK" Bundle.steD A U U.heap ∧ vx_Zq Bundle.tN "SUPPRESSED_SENTINEL" Bundle.listD A U U.heap
theorem pm_NW_warm {s U : State} (hW : s.WarmedH U.vm) {w : Cond} (hw : w ∈ pm_NW) (h : va_Nw w s) : va_Nw w U := by
  have hm := (List.mem_filter.mp hw).2
  split at hm
  · exact va_Nw.warmM hW h
  · exact va_Nw.warmD hW h
  · exact va_Nw.warmC hW h
  · cases hm
/-- at a callee's start -/
theorem pm_Cx.go {D : va_G} {cA : Nat → ClassId} {A : Nat → Prop} {ad : Nat → Nat} {X : List (Nat × List Value)} {s U : State} {locs : List Loc} (h : pm_Cx D cA A ad X s) (hW : s.WarmedH U.vm) (hS : va_S A s.heap U.heap locs) : pm_Cx D cA A ad X U := by
  obtain ⟨h1, h2, h3, h4, h5, h6, h7, h8⟩ := h
  have hk : ∀ a : Nat, a < s.heap.size → ¬ A a → U.heap[a]? = s.heap[a]? := hS.2.1
  refine ⟨h1.moved hW.alike, fun w hw => pm_NW_warm hW hw (h2 w hw), fun C hC => (h3 C hC).moved hW.alike, fun a l ha hl => ?_, fun a ha hb => va_Z.moved hW.alike ((h5 a ha hb).kept hk), fun q hq => (h6 q hq).warm hW, vx_Zq.moved hW.alike (h7.kept hk), vx_Zq.moved hW.alike (h8.kept hk)⟩
  obtain ⟨cell, e1, e2, e3, e4, e5, e6⟩ := h4 a l ha hl
  exact ⟨cell, by rw [hk _ (Array.getElem?_eq_some_iff.mp e1).1 e6]; exact e1, State.isArrayOf_alike hW.alike e2, e3, e4, e5, e6⟩
/-- the same state, a frame laid over it -/
theorem pm_Cx.same {D : va_G} {cA : Nat → ClassId} {A : Nat → Prop} {ad : Nat → Nat} {X : List (Nat × List Value)} {s U : State} (h : pm_Cx D cA A ad X s) (hv : U.vm = s.vm) (hh : U.heap = s.heap) : pm_Cx D cA A ad X U := by
  obtain ⟨h1, h2, h3, h4, h5, h6, h7, h8⟩ := h
  have hal : s.vm.Alike U.vm := by rw [hv]; exact Vm.Alike.refl _
  refine ⟨h1.moved hal, fun w hw => ?_, fun C hC => (h3 C hC).moved hal, fun a l ha hl => ?_, fun a ha hb => by rw [hh]; exact va_Z.moved hal (h5 a ha hb), fun q hq => (h6 q hq).same hv, by rw [hh]; exact vx_Zq.moved hal h7, by rw [hh]; exact vx_Zq.moved hal h8⟩
  · have hm := (List.mem_filter.mp hw).2
    split at hm
    · exact va_Nw.same rfl hv.symm (h2 _ hw)
    · exact va_Nw.same rfl hv.symm (h2 _ hw)
    · exact va_Nw.same rfl hv.symm (h2 _ hw)
    · cases hm
  · obtain ⟨cell, e1, e2, e3, e4, e5, e6⟩ := h4 a l ha hl
    exact ⟨cell, by rw [hh]; exact e1, State.isArrayOf_alike hal e2, e3, e4, e5, e6⟩
/-- slots of a picture -/
def pm_sz (c : pm_C) : Nat := match c with
  | .inl q => q.2.length
  | .inr q => q.2.length
def pm_slt (h : pm_H) : Nat := (h.map pm_sz).sum
theorem pm_slt_push (h : pm_H) (c : pm_C) : pm_slt (h ++ [c]) = pm_slt h + pm_sz c := by simp [pm_slt]
theorem pm_slt_set {h : pm_H} {k : Nat} {c c' : pm_C} (hk : h[k]? = some c) (hz : pm_sz c' = pm_sz c) : pm_slt (h.set k c') = pm_slt h := by
  unfold pm_slt
  rw [List.map_set, hz]
  congr 1
  have hm : (h.map pm_sz)[k]? = some (pm_sz c) := by rw [List.getElem?_map, hk]; rfl
  apply List.ext_getElem?
  intro j
  by_cases hj : k = j
  · subst hj
    rw [List.getElem?_set_self (List.getElem?_eq_some_iff.mp hm).1, hm]
  · rw [List.getElem?_set_ne hj]
/-- a method's frame: the machine, its code, its class, the words, its start -/
def pm_Fr (p : Program) (s : State) (mid : MethodId) (args : Array Value) (meth : Method) (c : Code) (D : va_G) (cA : Nat → ClassId) (A : Nat → Prop) (ad : Nat → Nat) (X : List (Nat × List Value)) (m : Nat) (e : pm_M) (y : pm_Hd) : Prop :=
  p.tables.exec = Jvm.exec ∧ c.code = pm_byt y.2.1 ∧ c.maxLocals = e.2.1 ∧ s.vm.findClass (pm_nm e.2.2.1) = some mid.cls ∧ (∀ w ∈ pm_W0, w.before args s = true) ∧ pm_Cx D cA A ad X s ∧ meth.name = y.1.name ∧ pm_ent m = some e ∧ pm_get pm_hds m = some y ∧ ∀ q : Nat, s.heap.size ≤ q → A q
/-- the heap as the frame has it: the picture, what stayed, the count of what was made (hb, sb: cells and slots of the picture at the start; x: exceptions that were caught, in the law's frame alone) -/
def pm_At (s : State) (D : va_G) (cA : Nat → ClassId) (A : Nat → Prop) (ad : Nat → Nat) (m hb sb x : Nat) (h : pm_H) (H : Heap) (locs : List Loc) (cells slots : Nat) : Prop :=
  pm_rel D cA A ad h H ∧ va_S A s.heap H locs ∧ (m = 309 ∨ (x = 0 ∧ H.size = s.heap.size + cells)) ∧ cells + hb = h.length + x ∧ slots + sb = pm_slt h + 6 * x
theorem pm_At.stored {s : State} {D : va_G} {cA : Nat → ClassId} {A : Nat → Prop} {ad : Nat → Nat} {m hb sb x : Nat} {h : pm_H} {H H1 : Heap} {locs locs1 : List Loc} {cells slots k : Nat} {c c' : pm_C} (hA : pm_At s D cA A ad m hb sb x h H locs cells slots) (hm : m ≠ 309) (hk : h[k]? = some c) (hz : pm_sz c' = pm_sz c)
    (hP : va_P D vwCl ((pm_ws ad cA h).set k (ad (16 + k), pm_re ad cA c')) H1) (hD : va_D A ((pm_ws ad cA h).set k (ad (16 + k), pm_re ad cA c'))) (hS : va_S A H H1 locs1) (hup : H1.size ≤ s.heap.size + cells) : pm_At s D cA A ad m hb sb x (h.set k c') H1 locs1 cells slots := by
  obtain ⟨h1, h2, h3, h4, h5⟩ := hA
  obtain ⟨hx, h3⟩ := h3.resolve_left hm
  have hsz : H1.size = H.size := by have := hS.1; omega
  exact ⟨h1.stored (List.getElem?_eq_some_iff.mp hk).1 hP hD hsz, pm_S_trans h2 hS, Or.inr ⟨hx, by rw [hsz]; exact h3⟩, by rw [List.length_set]; exact h4, by rw [pm_slt_set hk hz]; exact h5⟩
theorem pm_At.made {s : State} {D : va_G} {cA : Nat → ClassId} {A : Nat → Prop} {ad : Nat → Nat} {m hb sb x : Nat} {h : pm_H} {H H1 : Heap} {locs : List Loc} {cells slots : Nat} {c : pm_C} (hA : pm_At s D cA A ad m hb sb x h H locs cells slots) (hAs : ∀ q : Nat, s.heap.size ≤ q → A q) (hz : H1.size = H.size + 1) (ho : ∀ q, q < H.size → H1[q]? = H[q]?) (hc : va_at D vwCl (H.size, pm_re ad cA c) H1) : pm_At s D cA A ad m hb sb x (h ++ [c]) H1 locs (cells + 1) (slots + pm_sz c) := by
  obtain ⟨h1, h2, h3, h4, h5⟩ := hA
  refine ⟨h1.made (hAs _ h2.1) hz ho hc, ⟨by have := h2.1; omega, fun q hq hn => (ho q (Nat.lt_of_lt_of_le hq h2.1)).trans (h2.2.1 q hq hn), h2.2.2⟩, ?_, by rw [List.length_append]; show cells + 1 + hb = h.length + 1 + x; omega, by rw [pm_slt_push]; omega⟩
  rcases h3 with h3 | ⟨hx, h3⟩
  · exact Or.inl h3
  · exact Or.inr ⟨hx, by omega⟩
theorem pm_blt {a b : Nat} (h : Nat.blt a b = true) : a < b := Nat.le_of_ble_eq_true h
theorem pm_cond_true {b : Bool} {K : pm_R} {o : pm_H × (Option Value ⊕ Unit)} (h : cond b K none = some o) : b = true ∧ K = some o := by
  cases b with
  | false => cases h
  | true => exact ⟨rfl, h⟩
theorem pm_cond_false {b : Bool} {K : pm_R} {o : pm_H × (Option Value ⊕ Unit)} (h : cond b none K = some o) : b = false ∧ K = some o := by
  cases b with
  | false => exact ⟨rfl, h⟩
  | true => cases h
theorem pm_fv_eq (v : Value) (k : Value → pm_R) : pm_fv v k = k v := by
  unfold pm_fv
  split
  · rw [pm_fi_eq]
  · rw [pm_fl_eq]
  · rfl
section PmH
variable {p : Program} {l : Launch} {e : Env} {R : Room} {s : State} {mid : MethodId} {args : Array Value} {below : List Frame} {meth : Method} {c : Code} {H : Heap} {locs : List Loc} {cells slots : Nat} {Q : State → Prop}
variable {D : va_G} {cA : Nat → ClassId} {A : Nat → Prop} {ad : Nat → Nat} {X : List (Nat × List Value)} {m : Nat} {E : pm_M} {y : pm_Hd} {hb sb x : Nat} {h : pm_H}
variable {d pc len : Nat} {ls : pm_L} {st : List Value} {ih : pm_I} {o : pm_H × (Option Value ⊕ Unit)}
theorem pm_jLdcI {ix n : Nat} (F : pm_Fr p s mid args meth c D cA A ad X m E y) (hl : pm_get (pm_lnk E.2.2.1) ix = some (8, n, 0, 0) ∨ ∃ b z, pm_get (pm_lnk E.2.2.1) ix = some (8, n, b, z)) : (Cond.constant (pm_nm E.2.2.1) ix (Int32.ofNat n)).before args s = true := by
  obtain ⟨-, -, -, -, hw, -⟩ := F
  have key : ∀ b z, pm_get (pm_lnk E.2.2.1) ix = some (8, n, b, z) → (Cond.constant (pm_nm E.2.2.1) ix (Int32.ofNat n)).before args s = true := by
    intro b z hg
    obtain ⟨i, hi⟩ := pm_link hg
    have hi : decide (tables_1[i]? = some (.constant (pm_nm E.2.2.1) ix (Int32.ofNat n))) = true := hi
    exact hw _ (pm_W0_at i (of_decide_eq_true hi) rfl)
  rcases hl with h | ⟨b, z, h⟩
  · exact key _ _ h
  · exact key _ _ h
theorem pm_ldcJ {ix n b z : Nat} (F : pm_Fr p s mid args meth c D cA A ad X m E y) (hg : pm_get (pm_lnk E.2.2.1) ix = some (9, n, b, z)) : (Cond.constantLong (pm_nm E.2.2.1) ix (Int64.ofNat n)).before args s = true := by
  obtain ⟨-, -, -, -, hw, -⟩ := F
  obtain ⟨i, hi⟩ := pm_link hg
  have hi : decide (tables_1[i]? = some (.constantLong (pm_nm E.2.2.1) ix (Int64.ofNat n))) = true := hi
  exact hw _ (pm_W0_at i (of_decide_eq_true hi) rfl)
/-- a field's link -/
theorem pm_fld {ix ci k t : Nat} (F : pm_Fr p s mid args meth c D cA A ad X m E y) (hg : pm_get (pm_lnk E.2.2.1) ix = some (0, ci, k, t)) : ∃ (C : String) (T : u_T) (N : Nat), vwCl[ci]? = some (C, T, N) ∧ k < N ∧ (Cond.fieldLink (pm_nm E.2.2.1) ix (T k).1 (T k).2.1 (T k).2.2.1).before args s = true ∧ pm_tyok t (parseFieldDescriptor (T k).2.2.1) = true ∧ (T k).1 = pm_nm ci := by
  obtain ⟨-, -, -, -, hw, -⟩ := F
  obtain ⟨i, hi⟩ := pm_link hg
  have hi : (match vwCl[ci]? with
    | some r => Nat.blt k r.2.2 && (decide (tables_1[i]? = some (.fieldLink (pm_nm E.2.2.1) ix (r.2.1 k).1 (r.2.1 k).2.1 (r.2.1 k).2.2.1)) && (pm_tyok t (parseFieldDescriptor (r.2.1 k).2.2.1) && (decide ((r.2.1 k).1 = r.1) && decide (r.1 = pm_nm ci))))
    | none => false) = true := hi
  split at hi
  · rename_i r hr
    obtain ⟨C, T, N⟩ := r
    simp only [Bool.and_eq_true, decide_eq_true_eq] at hi
    obtain ⟨q1, q2, q3, q4, q5⟩ := hi
    exact ⟨C, T, N, hr, pm_blt q1, hw _ (pm_W0_at i q2 rfl), q3, q4.trans q5⟩
  · cases hi
theorem pm_jGet {ix : Nat} (F : pm_Fr p s mid args meth c D cA A ad X m E y) (hA : pm_At s D cA A ad m hb sb x h H locs cells slots) (hd : decode (pm_byt y.2.1) pc = .ok (.getfield ix, 3))
    (hK : ∀ q ls st, ih d h m q ls st = some o → pm_J p l e R s mid args below meth c H locs cells slots Q ad E.2.1 q ls st) (hr : pm_gGet ix ih d h m E.2.2.1 pc 3 ls st = some o) : pm_J p l e R s mid args below meth c H locs cells slots Q ad E.2.1 pc ls st := by
  intro LS hl
  unfold pm_gGet at hr
  split at hr
  · rename_i a r
    split at hr
    · rename_i ci k t cj fs hg hc
      replace hr := pm_cond_true hr
      obtain ⟨hb1, hr⟩ := hr
      have e1 : ci = cj := Nat.eq_of_beq_eq_true hb1
      subst e1
      split at hr
      · rename_i v hv
        rw [pm_fn_eq] at hr
        rw [pm_nth_eq] at hv
        obtain ⟨C, T, N, f1, f2, f3, f4, f5⟩ := pm_fld F hg
        obtain ⟨k0, rfl, -, hk0⟩ := pm_cell_some hc
        obtain ⟨hx, hbc, hml, hown, hw, hCx, -⟩ := F
        exact va_get (own := pm_nm E.2.2.1) (ref := (T k).1) (C := C) (T := T) (N := N) (Ts := pm_W0) hx hbc hw (pm_cls f1).1 hown hCx.1 hA.1.1 k0 (pm_ws_at hk0) f1 k f2 f3 (fun _ q => q) (v := pm_rv ad v) (by rw [List.getElem?_map, hv]; rfl) hd (hK _ _ _ hr LS hl)
      · cases hr
    · cases hr
  · cases hr
theorem pm_fit_ok {t : Nat} {ty : FieldType} {v : Value} (h1 : pm_fit t v = true) (h2 : pm_tyok t (some ty) = true) : narrow ty (pm_rv ad v) = pm_rv ad v ∧ fits ty (pm_rv ad v) = true := by
  match t, h1, h2 with
  | 0, h1, h2 =>
    cases ty <;> first | (cases h2; done) | skip
    cases v <;> first | (cases h1; done) | exact ⟨rfl, rfl⟩
  | 1, h1, h2 =>
    cases ty <;> first | (cases h2; done) | skip
    cases v with
    | int z =>
      have h3 : (decide (z = 0) || decide (z = 1)) = true := h1
      simp only [Bool.or_eq_true, decide_eq_true_eq] at h3
      rcases h3 with rfl | rfl
      · exact ⟨by show narrow .boolean (.int 0) = .int 0; decide, by show fits .boolean (.int 0) = true; decide⟩
      · exact ⟨by show narrow .boolean (.int 1) = .int 1; decide, by show fits .boolean (.int 1) = true; decide⟩
    | _ => cases h1
  | 2, h1, h2 =>
    cases ty <;> first | (cases h2; done) | skip
    cases v <;> first | (cases h1; done) | exact ⟨rfl, rfl⟩
  | 3, h1, h2 =>
    cases ty <;> first | (cases h2; done) | skip
    all_goals cases v <;> first | (cases h1; done) | exact ⟨rfl, rfl⟩
  | n + 4, h1, h2 => cases v <;> cases h1
theorem pm_jPut {ix : Nat} (F : pm_Fr p s mid args meth c D cA A ad X m E y) (hA : pm_At s D cA A ad m hb sb x h H locs cells slots) (hd : decode (pm_byt y.2.1) pc = .ok (.putfield ix, 3)) (hm : m ≠ 309)
    (hfin : ∀ ci k t C T N, pm_get (pm_lnk E.2.2.1) ix = some (0, ci, k, t) → vwCl[ci]? = some (C, T, N) → (T k).2.2.2 = true → ci = E.2.2.1 ∧ y.1.name = "<init>")
    (hK : ∀ h1 H1 locs1 q ls st, pm_At s D cA A ad m hb sb x h1 H1 locs1 cells slots → ih d h1 m q ls st = some o → pm_J p l e R s mid args below meth c H1 locs1 cells slots Q ad E.2.1 q ls st) (hr : pm_gPut ix ih d h m E.2.2.1 pc 3 ls st = some o) : pm_J p l e R s mid args below meth c H locs cells slots Q ad E.2.1 pc ls st := by
  intro LS hl
  unfold pm_gPut at hr
  split at hr
  · rename_i v a r
    split at hr
    · rename_i ci k t cj fs hg hc
      replace hr := pm_cond_true hr
      obtain ⟨hb1, hr⟩ := hr
      have e1 : ci = cj := Nat.eq_of_beq_eq_true hb1
      subst e1
      replace hr := pm_cond_true hr
      obtain ⟨hb2, hr⟩ := hr
      replace hr := pm_cond_true hr
      obtain ⟨hb3, hr⟩ := hr
      rw [pm_len_eq] at hb2
      rw [pm_fv_eq, pm_fn_eq] at hr
      obtain ⟨C, T, N, f1, f2, f3, f4, f5⟩ := pm_fld F hg
      obtain ⟨k0, rfl, e2, hk0⟩ := pm_cell_some hc
      rw [e2, pm_set_eq, pm_set_eq] at hr
      have hlt : k < fs.length := pm_blt hb2
      obtain ⟨hx, hbc, hml, hown, hw, hCx, hnm, -⟩ := F
      obtain ⟨g1, ⟨ty0, g2⟩, g3, -⟩ := pm_cls f1
      rw [g2 k f2] at f4
      obtain ⟨n1, n2⟩ := pm_fit_ok (ad := ad) hb3 f4
      have hgo : ∀ (H1 : Heap) (locs1 : List Loc), va_P D vwCl ((pm_ws ad cA h).set k0 (ad (16 + k0), .inr (ci, (fs.map (pm_rv ad)).set k (pm_rv ad v)))) H1 → va_D A ((pm_ws ad cA h).set k0 (ad (16 + k0), .inr (ci, (fs.map (pm_rv ad)).set k (pm_rv ad v)))) → va_S A H H1 locs1 → W p l e R s mid args below meth c H1 locs1 cells slots Q (F0 mid (pc + 3) LS (r.map (pm_rv ad))) := by
        intro H1 locs1 hP1 hD1 hS1
        have e3 : (.inr (ci, (fs.map (pm_rv ad)).set k (pm_rv ad v)) : va_E) = pm_re ad cA (.inr (ci, fs.set k v)) := by
          show _ = Sum.inr (ci, (fs.set k v).map (pm_rv ad))
          rw [List.map_set]
        rw [e3] at hP1 hD1
        refine pm_up fun hup => ?_
        exact hK _ H1 locs1 _ _ _ (hA.stored hm hk0 (by show (fs.set k v).length = fs.length; simp) hP1 hD1 hS1 hup) hr LS hl
      have hlen : k < (fs.map (pm_rv ad)).length := by rw [List.length_map]; exact hlt
      cases hfi : (T k).2.2.2 with
      | false => exact va_put (own := pm_nm E.2.2.1) (ref := (T k).1) (C := C) (T := T) (N := N) (Ts := pm_W0) (ty := ty0 k) hx hbc hw g1 ty0 g2 g3 hown hCx.1 hA.1.1 hA.1.2.1 (pm_S_self hA.2.1) k0 (pm_ws_at hk0) f1 k f2 f3 (fun _ q => q) hfi (g2 k f2) n1 n2 hlen hd hgo
      | true =>
        obtain ⟨q1, q2⟩ := hfin ci k t C T N hg f1 hfi
        exact va_putF (own := pm_nm E.2.2.1) (ref := (T k).1) (C := C) (T := T) (N := N) (Ts := pm_W0) (ty := ty0 k) hx hbc hw g1 ty0 g2 g3 hown hCx.1 hA.1.1 hA.1.2.1 (pm_S_self hA.2.1) k0 (pm_ws_at hk0) f1 k f2 f3 (fun _ q => q) hfi (hnm.trans q2) (by rw [f5, q1]) (g2 k f2) n1 n2 hlen hd hgo
    · cases hr
  · cases hr
end PmH
end
section
/-! soundness: arrays, new cells, constants -/
theorem pm_ty_at (cA : Nat → ClassId) {t : Nat} (h : pm_okt t = true) : ∃ ty, (pm_tys cA)[t]? = some (cA t, ty) := by
  unfold pm_okt at h
  simp only [Bool.or_eq_true] at h
  rcases h with (h | h) | h
  · have ht := pm_blt h
    match t, ht with
    | 0, _ => exact ⟨_, rfl⟩
    | 1, _ => exact ⟨_, rfl⟩
    | 2, _ => exact ⟨_, rfl⟩
    | 3, _ => exact ⟨_, rfl⟩
    | 4, _ => exact ⟨_, rfl⟩
    | n + 5, q => exact absurd q (by omega)
  · have := Nat.eq_of_beq_eq_true h
    subst this
    exact ⟨_, rfl⟩
  · have := Nat.eq_of_beq_eq_true h
    subst this
    exact ⟨_, rfl⟩
section PmA
variable {p : Program} {l : Launch} {e : Env} {R : Room} {s : State} {mid : MethodId} {args : Array Value} {below : List Frame} {meth : Method} {c : Code} {H : Heap} {locs : List Loc} {cells slots : Nat} {Q : State → Prop}
variable {D : va_G} {cA : Nat → ClassId} {A : Nat → Prop} {ad : Nat → Nat} {X : List (Nat × List Value)} {m : Nat} {E : pm_M} {y : pm_Hd} {hb sb x : Nat} {h : pm_H}
variable {d pc len : Nat} {ls : pm_L} {st : List Value} {ih : pm_I} {o : pm_H × (Option Value ⊕ Unit)}
/-- what is there at the start, seen from here -/
theorem pm_ex_here (F : pm_Fr p s mid args meth c D cA A ad X m E y) (hA : pm_At s D cA A ad m hb sb x h H locs cells slots) {a : Nat} {v : List Value} (ha : a < 16) (hX : X[a]? = some (0, v)) : ∃ cell : Cell, H[ad a]? = some cell ∧ s.isArrayOf cell .int ∧ cell.vm ≠ .unknown ∧ cell.slots.size = v.length ∧ ∀ (j : Nat) (w : Value), v[j]? = some w → cell.slots[j]? = some w := by
  obtain ⟨-, -, -, -, -, hCx, -⟩ := F
  obtain ⟨cell, e1, e2, e3, e4, e5, e6⟩ := hCx.2.2.2.1 a v ha hX
  exact ⟨cell, by rw [hA.2.1.2.1 _ (Array.getElem?_eq_some_iff.mp e1).1 e6]; exact e1, e2, e3, e4, e5⟩
theorem pm_jLen (F : pm_Fr p s mid args meth c D cA A ad X m E y) (hA : pm_At s D cA A ad m hb sb x h H locs cells slots) (hd : decode (pm_byt y.2.1) pc = .ok (.arraylength, 1))
    (hK : ∀ q ls st, ih d h m q ls st = some o → pm_J p l e R s mid args below meth c H locs cells slots Q ad E.2.1 q ls st) (hr : pm_gLen X ih d h m E.2.2.1 pc 1 ls st = some o) : pm_J p l e R s mid args below meth c H locs cells slots Q ad E.2.1 pc ls st := by
  intro LS hl
  unfold pm_gLen at hr
  split at hr
  · rename_i a r
    split at hr
    · rename_i t v hrow
      replace hr := pm_cond_true hr
      obtain ⟨hb1, hr⟩ := hr
      rw [pm_fn_eq, pm_fn_eq, pm_len_eq] at hr
      have hj := hK _ _ _ hr LS hl
      rcases pm_row_own hrow with ⟨ha, hX, rfl⟩ | ⟨k, rfl, hk⟩
      · obtain ⟨cell, e1, e2, e3, e4, -⟩ := pm_ex_here F hA ha hX
        obtain ⟨hx, hbc, -⟩ := F
        exact W.alen (n := Int32.ofNat v.length) hx hbc e1 e2 (by rw [e4] <;> rfl) rfl rfl hd hj
      · obtain ⟨ty, hty⟩ := pm_ty_at cA hb1
        obtain ⟨hx, hbc, hml, hown, hw, hCx, -⟩ := F
        exact va_alen (v := Int32.ofNat v.length) hx hbc hCx.1 hA.1.1 k t (pm_ws_at hk) hty rfl hd hj
    · cases hr
  · cases hr
theorem pm_not_neg {j : Int32} (h : decide (j < 0) = false) : ¬ j < 0 := of_decide_eq_false h
theorem pm_vin {j : Int32} {v : List Value} {w : Value} (h0 : ¬ j < 0) (h : v[j.toNatClampNeg]? = some w) : vp_in j v.length := by
  have := pm_len_lt h
  rintro (q | q)
  · exact h0 q
  · omega
/-- an int out of an own row of numbers, by the row of its type -/
theorem pm_jIald {t t' : Nat} (F : pm_Fr p s mid args meth c D cA A ad X m E y) (hA : pm_At s D cA A ad m hb sb x h H locs cells slots)
    (row : ∀ (u k : Nat) (v : List Value) (j : Int32) (LS : Array Slot) (rest : List Value), (u = t ∨ u = t') → h[k]? = some (.inl (u, v)) → vp_in j v.length → W p l e R s mid args below meth c H locs cells slots Q (F0 mid (pc + 1) LS (.int (pm_iv (v.getD j.toNatClampNeg .null)) :: rest)) → W p l e R s mid args below meth c H locs cells slots Q (F0 mid pc LS (.int j :: .ref (ad (16 + k)) :: rest)))
    (hd : (t = 0 ∨ t' = 0) → decode (pm_byt y.2.1) pc = .ok (.iaload, 1))
    (hK : ∀ q ls st, ih d h m q ls st = some o → pm_J p l e R s mid args below meth c H locs cells slots Q ad E.2.1 q ls st) (hr : pm_gAld X t t' ih d h m E.2.2.1 pc 1 ls st = some o) : pm_J p l e R s mid args below meth c H locs cells slots Q ad E.2.1 pc ls st := by
  intro LS hl
  unfold pm_gAld at hr
  split at hr
  · rename_i j a r
    split at hr
    · rename_i u v hrow
      replace hr := pm_cond_true hr
      obtain ⟨hb1, hr⟩ := hr
      replace hr := pm_cond_false hr
      obtain ⟨hb2, hr⟩ := hr
      have h0 := pm_not_neg hb2
      have hu : u = t ∨ u = t' := by
        simp only [Bool.or_eq_true] at hb1
        rcases hb1 with q | q
        · exact Or.inl (Nat.eq_of_beq_eq_true q)
        · exact Or.inr (Nat.eq_of_beq_eq_true q)
      split at hr
      · rename_i z hz
        rw [pm_fn_eq] at hr
        rw [pm_nth_eq] at hz
        have hj := hK _ _ _ hr LS hl
        rcases pm_row_own hrow with ⟨ha, hX, rfl⟩ | ⟨k, rfl, hk⟩
        · obtain ⟨cell, e1, e2, e3, e4, e5⟩ := pm_ex_here F hA ha hX
          obtain ⟨hx, hbc, -⟩ := F
          exact W.iald (v := .int z) hx hbc e1 e2 e3 (by rw [e4]; exact pm_vin h0 hz) (e5 _ _ hz) rfl rfl (hd (hu.elim (fun q => Or.inl q.symm) (fun q => Or.inr q.symm))) hj
        · refine row u k v j LS _ hu hk (pm_vin h0 hz) ?_
          rw [pm_getI hz]
          exact hj
      · cases hr
    · cases hr
  · cases hr
theorem pm_rowI (F : pm_Fr p s mid args meth c D cA A ad X m E y) (hA : pm_At s D cA A ad m hb sb x h H locs cells slots) (hd : decode (pm_byt y.2.1) pc = .ok (.iaload, 1)) (u k : Nat) (v : List Value) (j : Int32) (LS : Array Slot) (rest : List Value) (hu : u = 0 ∨ u = 0) (hk : h[k]? = some (.inl (u, v))) (hin : vp_in j v.length) (kk : W p l e R s mid args below meth c H locs cells slots Q (F0 mid (pc + 1) LS (.int (pm_iv (v.getD j.toNatClampNeg .null)) :: rest))) : W p l e R s mid args below meth c H locs cells slots Q (F0 mid pc LS (.int j :: .ref (ad (16 + k)) :: rest)) := by
  have e0 : u = 0 := hu.elim id id
  subst e0
  obtain ⟨hx, hbc, hml, hown, hw, hCx, -⟩ := F
  have ha := pm_ws_at (ad := ad) (cA := cA) hk
  rw [show pm_re ad cA (.inl (0, v)) = .inl (cA 0, v.length, .inl (fun j => pm_iv (v.getD j .null))) from rfl] at ha
  exact va_iald hx hbc hCx.1 hA.1.1 k 0 ha rfl hin hd kk
theorem pm_rowB (F : pm_Fr p s mid args meth c D cA A ad X m E y) (hA : pm_At s D cA A ad m hb sb x h H locs cells slots) (hd : decode (pm_byt y.2.1) pc = .ok (.baload, 1)) (u k : Nat) (v : List Value) (j : Int32) (LS : Array Slot) (rest : List Value) (hu : u = 1 ∨ u = 4) (hk : h[k]? = some (.inl (u, v))) (hin : vp_in j v.length) (kk : W p l e R s mid args below meth c H locs cells slots Q (F0 mid (pc + 1) LS (.int (pm_iv (v.getD j.toNatClampNeg .null)) :: rest))) : W p l e R s mid args below meth c H locs cells slots Q (F0 mid pc LS (.int j :: .ref (ad (16 + k)) :: rest)) := by
  obtain ⟨hx, hbc, hml, hown, hw, hCx, -⟩ := F
  have ha := pm_ws_at (ad := ad) (cA := cA) hk
  rcases hu with rfl | rfl
  · rw [show pm_re ad cA (.inl (1, v)) = .inl (cA 1, v.length, .inl (fun j => pm_iv (v.getD j .null))) from rfl] at ha
    exact va_zald hx hbc hCx.1 hA.1.1 k 1 ha rfl hin hd kk
  · rw [show pm_re ad cA (.inl (4, v)) = .inl (cA 4, v.length, .inl (fun j => pm_iv (v.getD j .null))) from rfl] at ha
    exact va_bald hx hbc hCx.1 hA.1.1 k 4 ha rfl hin hd kk
theorem pm_rowC (F : pm_Fr p s mid args meth c D cA A ad X m E y) (hA : pm_At s D cA A ad m hb sb x h H locs cells slots) (hd : decode (pm_byt y.2.1) pc = .ok (.caload, 1)) (u k : Nat) (v : List Value) (j : Int32) (LS : Array Slot) (rest : List Value) (hu : u = 2 ∨ u = 2) (hk : h[k]? = some (.inl (u, v))) (hin : vp_in j v.length) (kk : W p l e R s mid args below meth c H locs cells slots Q (F0 mid (pc + 1) LS (.int (pm_iv (v.getD j.toNatClampNeg .null)) :: rest))) : W p l e R s mid args below meth c H locs cells slots Q (F0 mid pc LS (.int j :: .ref (ad (16 + k)) :: rest)) := by
  have e0 : u = 2 := hu.elim id id
  subst e0
  obtain ⟨hx, hbc, hml, hown, hw, hCx, -⟩ := F
  have ha := pm_ws_at (ad := ad) (cA := cA) hk
  rw [show pm_re ad cA (.inl (2, v)) = .inl (cA 2, v.length, .inl (fun j => pm_iv (v.getD j .null))) from rfl] at ha
  exact va_cald hx hbc hCx.1 hA.1.1 k 2 ha rfl hin hd kk
theorem pm_jLald (F : pm_Fr p s mid args meth c D cA A ad X m E y) (hA : pm_At s D cA A ad m hb sb x h H locs cells slots) (hd : decode (pm_byt y.2.1) pc = .ok (.laload, 1))
    (hK : ∀ q ls st, ih d h m q ls st = some o → pm_J p l e R s mid args below meth c H locs cells slots Q ad E.2.1 q ls st) (hr : pm_gLald X ih d h m E.2.2.1 pc 1 ls st = some o) : pm_J p l e R s mid args below meth c H locs cells slots Q ad E.2.1 pc ls st := by
  intro LS hl
  unfold pm_gLald at hr
  split at hr
  · rename_i j a r
    split at hr
    · rename_i u v hrow
      replace hr := pm_cond_true hr
      obtain ⟨hb1, hr⟩ := hr
      replace hr := pm_cond_false hr
      obtain ⟨hb2, hr⟩ := hr
      have h0 := pm_not_neg hb2
      have hu : u = 3 := Nat.eq_of_beq_eq_true hb1
      subst hu
      split at hr
      · rename_i z hz
        rw [pm_fn_eq] at hr
        rw [pm_nth_eq] at hz
        have hj := hK _ _ _ hr LS hl
        rcases pm_row_own hrow with ⟨ha, hX, q⟩ | ⟨k, rfl, hk⟩
        · cases q
        · obtain ⟨hx, hbc, hml, hown, hw, hCx, -⟩ := F
          have ha := pm_ws_at (ad := ad) (cA := cA) hk
          rw [show pm_re ad cA (.inl (3, v)) = .inl (cA 3, v.length, .inr (.inl (fun j => pm_gv (v.getD j .null)))) from rfl] at ha
          refine va_lald hx hbc hCx.1 hA.1.1 k 3 ha rfl (pm_vin h0 hz) hd ?_
          show W p l e R s mid args below meth c H locs cells slots Q (F0 mid (pc + 1) LS (.long (pm_gv (v.getD j.toNatClampNeg .null)) :: _))
          rw [pm_getL hz]
          exact hj
      · cases hr
    · cases hr
  · cases hr
theorem pm_jAald (F : pm_Fr p s mid args meth c D cA A ad X m E y) (hA : pm_At s D cA A ad m hb sb x h H locs cells slots) (hd : decode (pm_byt y.2.1) pc = .ok (.aaload, 1))
    (hK : ∀ q ls st, ih d h m q ls st = some o → pm_J p l e R s mid args below meth c H locs cells slots Q ad E.2.1 q ls st) (hr : pm_gAald ih d h m E.2.2.1 pc 1 ls st = some o) : pm_J p l e R s mid args below meth c H locs cells slots Q ad E.2.1 pc ls st := by
  intro LS hl
  unfold pm_gAald at hr
  split at hr
  · rename_i j a r
    split at hr
    · rename_i t v hc
      replace hr := pm_cond_true hr
      obtain ⟨hb1, hr⟩ := hr
      replace hr := pm_cond_false hr
      obtain ⟨hb2, hr⟩ := hr
      have h0 := pm_not_neg hb2
      split at hr
      · rename_i z hz
        rw [pm_fn_eq] at hr
        rw [pm_nth_eq] at hz
        have hj := hK _ _ _ hr LS hl
        obtain ⟨k, rfl, -, hk⟩ := pm_cell_some hc
        obtain ⟨hx, hbc, hml, hown, hw, hCx, -⟩ := F
        have ha := pm_ws_at (ad := ad) (cA := cA) hk
        simp only [Bool.or_eq_true] at hb1
        have hgo : va_rf (pm_qv ad (v.getD j.toNatClampNeg .null)) = .ref (ad z) := by rw [pm_getQ hz]; rfl
        rcases hb1 with q | q
        · have e8 := Nat.eq_of_beq_eq_true q
          subst e8
          rw [show pm_re ad cA (.inl (8, v)) = .inl (cA 8, v.length, .inr (.inr (.inr (.inr (fun j => pm_qv ad (v.getD j .null)))))) from rfl] at ha
          refine va_aldq (C := RX3) hx hbc hCx.1 hA.1.1 k 8 ha rfl (pm_vin h0 hz) hd ?_
          show W p l e R s mid args below meth c H locs cells slots Q (F0 mid (pc + 1) LS (va_rf (pm_qv ad (v.getD j.toNatClampNeg .null)) :: _))
          rw [hgo]
          exact hj
        · have e12 := Nat.eq_of_beq_eq_true q
          subst e12
          rw [show pm_re ad cA (.inl (12, v)) = .inl (cA 12, v.length, .inr (.inr (.inr (.inr (fun j => pm_qv ad (v.getD j .null)))))) from rfl] at ha
          refine va_aldq (C := RX7) hx hbc hCx.1 hA.1.1 k 12 ha rfl (pm_vin h0 hz) hd ?_
          show W p l e R s mid args below meth c H locs cells slots Q (F0 mid (pc + 1) LS (va_rf (pm_qv ad (v.getD j.toNatClampNeg .null)) :: _))
          rw [hgo]
          exact hj
      · cases hr
    · cases hr
  · cases hr
/-- a store of an int, by the row of its type -/
theorem pm_jIast {t : Nat} {f : Int32 → Int32} (hA : pm_At s D cA A ad m hb sb x h H locs cells slots) (hm : m ≠ 309) (ht3 : t ≠ 3) (ht5 : t < 5)
    (row : ∀ (k : Nat) (v : List Value) (j z : Int32) (LS : Array Slot) (rest : List Value), h[k]? = some (.inl (t, v)) → vp_in j v.length → (∀ (H1 : Heap) (locs1 : List Loc), va_P D vwCl ((pm_ws ad cA h).set k (ad (16 + k), .inl (cA t, v.length, .inl (upd (fun j => pm_iv (v.getD j .null)) j.toNatClampNeg (f z))))) H1 → va_D A ((pm_ws ad cA h).set k (ad (16 + k), .inl (cA t, v.length, .inl (upd (fun j => pm_iv (v.getD j .null)) j.toNatClampNeg (f z))))) → va_S A H H1 locs1 → W p l e R s mid args below meth c H1 locs1 cells slots Q (F0 mid (pc + 1) LS rest)) → W p l e R s mid args below meth c H locs cells slots Q (F0 mid pc LS (.int z :: .int j :: .ref (ad (16 + k)) :: rest)))
    (hK : ∀ h1 H1 locs1 q ls st, pm_At s D cA A ad m hb sb x h1 H1 locs1 cells slots → ih d h1 m q ls st = some o → pm_J p l e R s mid args below meth c H1 locs1 cells slots Q ad E.2.1 q ls st) (hr : pm_gIst t f ih d h m E.2.2.1 pc 1 ls st = some o) : pm_J p l e R s mid args below meth c H locs cells slots Q ad E.2.1 pc ls st := by
  intro LS hl
  unfold pm_gIst at hr
  split at hr
  · rename_i z j a r
    split at hr
    · rename_i u v hc
      replace hr := pm_cond_true hr
      obtain ⟨hb1, hr⟩ := hr
      replace hr := pm_cond_true hr
      obtain ⟨hb2, hr⟩ := hr
      have hu := Nat.eq_of_beq_eq_true hb1
      subst hu
      rw [pm_len_eq] at hb2
      obtain ⟨k, rfl, e2, hk⟩ := pm_cell_some hc
      rw [pm_fi_eq, pm_fn_eq, e2, pm_set_eq, pm_set_eq] at hr
      refine row k v j z LS _ hk (pm_in_of hb2) fun H1 locs1 hP1 hD1 hS1 => ?_
      have e3 : (.inl (cA u, v.length, .inl (upd (fun j => pm_iv (v.getD j .null)) j.toNatClampNeg (f z))) : va_E) = pm_re ad cA (.inl (u, v.set j.toNatClampNeg (.int (f z)))) := by
        show _ = Sum.inl (cA u, (v.set j.toNatClampNeg (.int (f z))).length, pm_ct ad u (v.set j.toNatClampNeg (.int (f z))))
        rw [pm_ctI ad _ ht3 ht5, List.length_set, pm_upI v _ _ (pm_in_lt hb2)]
      rw [e3] at hP1 hD1
      refine pm_up fun hup => ?_
      exact hK _ H1 locs1 _ _ _ (hA.stored hm hk (by show (v.set j.toNatClampNeg (.int (f z))).length = v.length; simp) hP1 hD1 hS1 hup) hr LS hl
    · cases hr
  · cases hr
theorem pm_jLast (F : pm_Fr p s mid args meth c D cA A ad X m E y) (hA : pm_At s D cA A ad m hb sb x h H locs cells slots) (hm : m ≠ 309) (hd : decode (pm_byt y.2.1) pc = .ok (.lastore, 1))
    (hK : ∀ h1 H1 locs1 q ls st, pm_At s D cA A ad m hb sb x h1 H1 locs1 cells slots → ih d h1 m q ls st = some o → pm_J p l e R s mid args below meth c H1 locs1 cells slots Q ad E.2.1 q ls st) (hr : pm_gLst ih d h m E.2.2.1 pc 1 ls st = some o) : pm_J p l e R s mid args below meth c H locs cells slots Q ad E.2.1 pc ls st := by
  intro LS hl
  unfold pm_gLst at hr
  split at hr
  · rename_i z j a r
    split at hr
    · rename_i u v hc
      replace hr := pm_cond_true hr
      obtain ⟨hb1, hr⟩ := hr
      replace hr := pm_cond_true hr
      obtain ⟨hb2, hr⟩ := hr
      have hu := Nat.eq_of_beq_eq_true hb1
      subst hu
      rw [pm_len_eq] at hb2
      obtain ⟨k, rfl, e2, hk⟩ := pm_cell_some hc
      rw [pm_fl_eq, pm_fn_eq, e2, pm_set_eq, pm_set_eq] at hr
      obtain ⟨hx, hbc, hml, hown, hw, hCx, -⟩ := F
      have ha := pm_ws_at (ad := ad) (cA := cA) hk
      rw [show pm_re ad cA (.inl (3, v)) = .inl (cA 3, v.length, .inr (.inl (fun j => pm_gv (v.getD j .null)))) from rfl] at ha
      refine va_last hx hbc hCx.1 hA.1.1 hA.1.2.1 (pm_S_self hA.2.1) k 3 ha rfl (pm_in_of hb2) hd fun H1 locs1 hP1 hD1 hS1 => ?_
      have e3 : (.inl (cA 3, v.length, .inr (.inl (vp_updL (fun j => pm_gv (v.getD j .null)) j.toNatClampNeg z))) : va_E) = pm_re ad cA (.inl (3, v.set j.toNatClampNeg (.long z))) := by
        show _ = Sum.inl (cA 3, (v.set j.toNatClampNeg (.long z)).length, pm_ct ad 3 (v.set j.toNatClampNeg (.long z)))
        rw [pm_ct3, List.length_set, pm_upL v _ _ (pm_in_lt hb2)]
      rw [e3] at hP1 hD1
      refine pm_up fun hup => ?_
      exact hK _ H1 locs1 _ _ _ (hA.stored hm hk (by show (v.set j.toNatClampNeg (.long z)).length = v.length; simp) hP1 hD1 hS1 hup) hr LS hl
    · cases hr
  · cases hr
theorem pm_jAast (F : pm_Fr p s mid args meth c D cA A ad X m E y) (hA : pm_At s D cA A ad m hb sb x h H locs cells slots) (hm : m ≠ 309) (hd : decode (pm_byt y.2.1) pc = .ok (.aastore, 1))
    (hK : ∀ h1 H1 locs1 q ls st, pm_At s D cA A ad m hb sb x h1 H1 locs1 cells slots → ih d h1 m q ls st = some o → pm_J p l e R s mid args below meth c H1 locs1 cells slots Q ad E.2.1 q ls st) (hr : pm_gAst ih d h m E.2.2.1 pc 1 ls st = some o) : pm_J p l e R s mid args below meth c H locs cells slots Q ad E.2.1 pc ls st := by
  intro LS hl
  unfold pm_gAst at hr
  split at hr
  · rename_i z j a r
    split at hr
    · rename_i t v ci fs hc hcz
      replace hr := pm_cond_true hr
      obtain ⟨hb1, hr⟩ := hr
      replace hr := pm_cond_true hr
      obtain ⟨hb2, hr⟩ := hr
      rw [pm_len_eq] at hb1
      obtain ⟨k, rfl, e2, hk⟩ := pm_cell_some hc
      obtain ⟨k2, rfl, -, hk2⟩ := pm_cell_some hcz
      rw [pm_fn_eq, e2, pm_set_eq, pm_set_eq] at hr
      obtain ⟨hx, hbc, hml, hown, hw, hCx, -⟩ := F
      have ha := pm_ws_at (ad := ad) (cA := cA) hk
      have hv := pm_ws_at (ad := ad) (cA := cA) hk2
      rw [Bool.and_eq_true, Bool.or_eq_true] at hb2
      have h5 : 5 ≤ t := by have := Nat.eq_of_beq_eq_true hb2.1; omega
      have e0 : pm_re ad cA (.inl (t, v)) = .inl (cA t, v.length, .inr (.inr (.inr (.inr (fun j => pm_qv ad (v.getD j .null)))))) := by
        show Sum.inl (cA t, v.length, pm_ct ad t v) = _
        rw [pm_ctQ ad v h5]
      rw [e0] at ha
      have hgo : ∀ (H1 : Heap) (locs1 : List Loc), va_P D vwCl ((pm_ws ad cA h).set k (ad (16 + k), .inl (cA t, v.length, .inr (.inr (.inr (.inr (va_up (fun j => pm_qv ad (v.getD j .null)) j.toNatClampNeg (some (ad (16 + k2)))))))))) H1 → va_D A ((pm_ws ad cA h).set k (ad (16 + k), .inl (cA t, v.length, .inr (.inr (.inr (.inr (va_up (fun j => pm_qv ad (v.getD j .null)) j.toNatClampNeg (some (ad (16 + k2)))))))))) → va_S A H H1 locs1 → W p l e R s mid args below meth c H1 locs1 cells slots Q (F0 mid (pc + 1) LS (r.map (pm_rv ad))) := by
        intro H1 locs1 hP1 hD1 hS1
        have e3 : (.inl (cA t, v.length, .inr (.inr (.inr (.inr (va_up (fun j => pm_qv ad (v.getD j .null)) j.toNatClampNeg (some (ad (16 + k2)))))))) : va_E) = pm_re ad cA (.inl (t, v.set j.toNatClampNeg (.ref (16 + k2)))) := by
          show _ = Sum.inl (cA t, (v.set j.toNatClampNeg (.ref (16 + k2))).length, pm_ct ad t (v.set j.toNatClampNeg (.ref (16 + k2))))
          rw [pm_ctQ ad _ h5, List.length_set, pm_upQ ad v _ _ (pm_in_lt hb1)]
        rw [e3] at hP1 hD1
        refine pm_up fun hup => ?_
        exact hK _ H1 locs1 _ _ _ (hA.stored hm hk (by show (v.set j.toNatClampNeg (.ref (16 + k2))).length = v.length; simp) hP1 hD1 hS1 hup) hr LS hl
      obtain ⟨q1, q2⟩ := hb2
      have e5 := Nat.eq_of_beq_eq_true q1
      rcases q2 with q2 | q2
      · have e8 := Nat.eq_of_beq_eq_true q2
        have e9 : ci = 3 := by omega
        subst e8; subst e9
        exact va_astq (r := (RX3, TX3, 4)) hx hbc hCx.1 hA.1.1 hA.1.2.1 (pm_S_self hA.2.1) k 8 k2 3 ha rfl hv rfl (pm_in_of hb1) hd hgo
      · have e8 := Nat.eq_of_beq_eq_true q2
        have e9 : ci = 7 := by omega
        subst e8; subst e9
        exact va_astq (r := (RX7, TX7, 7)) hx hbc hCx.1 hA.1.1 hA.1.2.1 (pm_S_self hA.2.1) k 12 k2 7 ha rfl hv rfl (pm_in_of hb1) hd hgo
    · cases hr
  · cases hr
end PmA
end
section
/-! soundness: new cells, constants, what is called by its meaning -/
section PmN
variable {p : Program} {l : Launch} {e : Env} {R : Room} {s : State} {mid : MethodId} {args : Array Value} {below : List Frame} {meth : Method} {c : Code} {H : Heap} {locs : List Loc} {cells slots : Nat} {Q : State → Prop}
variable {D : va_G} {cA : Nat → ClassId} {A : Nat → Prop} {ad : Nat → Nat} {X : List (Nat × List Value)} {m : Nat} {E : pm_M} {y : pm_Hd} {hb sb x : Nat} {h : pm_H}
variable {d pc len : Nat} {ls : pm_L} {st : List Value} {ih : pm_I} {o : pm_H × (Option Value ⊕ Unit)}
/-- fields of a new object -/
def pm_X0 (X : List (Nat × List Value)) : Prop := ∀ (ci : Nat) (C : String) (T : u_T) (N z : Nat) (fs : List Value), vwCl[ci]? = some (C, T, N) → X[16 + ci]? = some (z, fs) → fs.length = N ∧ (∀ (k : Nat) (ty : FieldType), k < N → parseFieldDescriptor (T k).2.2.1 = some ty → fs[k]? = some (defaultValue ty))
theorem pm_default_rv (ty : FieldType) : pm_rv ad (defaultValue ty) = defaultValue ty := by cases ty <;> rfl
theorem pm_jNew {ix : Nat} (F : pm_Fr p s mid args meth c D cA A ad X m E y) (hX : pm_X0 X) (hA : pm_At s D cA A ad m hb sb x h H locs cells slots) (hd : decode (pm_byt y.2.1) pc = .ok (.new ix, 3))
    (hroom : ∀ (h1 : pm_H) (q : Nat) (ls : pm_L) (st : List Value), ih d h1 m q ls st = some o → h1.length + x ≤ R.cells + hb ∧ pm_slt h1 + 6 * x ≤ R.slots + sb)
    (hthr : ∀ b z w, pm_get (pm_lnk E.2.2.1) ix = some (13, b, z, w) → pm_scH h = true → st = [] → o = (h, .inr ()) → pm_J p l e R s mid args below meth c H locs cells slots Q ad E.2.1 pc ls st)
    (hK : ∀ h1 H1 cells1 slots1 q ls st, pm_At s D cA A ad m hb sb x h1 H1 locs cells1 slots1 → ih d h1 m q ls st = some o → pm_J p l e R s mid args below meth c H1 locs cells1 slots1 Q ad E.2.1 q ls st) (hr : pm_gNew X ix ih d h m E.2.2.1 pc 3 ls st = some o) : pm_J p l e R s mid args below meth c H locs cells slots Q ad E.2.1 pc ls st := by
  unfold pm_gNew at hr
  split at hr
  · rename_i ci n w hg
    split at hr
    · rename_i z fs hz
      replace hr := pm_cond_true hr
      obtain ⟨hb1, hr⟩ := hr
      rw [pm_nth_eq] at hz
      rw [pm_fn_eq, pm_fn_eq, pm_len_eq] at hr
      rw [pm_len_eq] at hb1
      obtain ⟨i, hi⟩ := pm_link hg
      have hi : (match vwCl[ci]? with
        | some r => decide (tables_1[i]? = some (.classLink (pm_nm E.2.2.1) ix r.1)) && Nat.beq n r.2.2
        | none => false) = true := hi
      split at hi
      · rename_i r hr1
        obtain ⟨C, T, N⟩ := r
        simp only [Bool.and_eq_true, decide_eq_true_eq] at hi
        obtain ⟨hi1, hi2⟩ := hi
        obtain ⟨x1, x2⟩ := hX ci C T N z fs hr1 hz
        obtain ⟨g1, ⟨ty0, g2⟩, g3, g4, g5⟩ := pm_cls hr1
        obtain ⟨hx, hbc, hml, hown, hw, hCx, hnm, he, hy, hAs⟩ := F
        have hKn := hCx.1.1 ci _ hr1
        obtain ⟨rm1, rm2⟩ := hroom _ _ _ _ hr
        rw [List.length_append] at rm1
        rw [pm_slt_push] at rm2
        have hsz : pm_sz (.inr (ci, fs)) = N := x1
        rw [hsz] at rm2
        have c1 : cells + 1 ≤ R.cells := by have := hA.2.2.2.1; simp at rm1; omega
        have c2 : slots + N ≤ R.slots := by have := hA.2.2.2.2; omega
        intro LS hl
        refine W.newcK (C := C) (n := N) hx hbc hown (hw _ (pm_W0_at i hi1 rfl)) (hw _ g4) (hw _ g5) rfl hd c1 c2 hKn.2.1 rfl fun H1 kC hkC e1 z1 o1 => ?_
        have hat : va_at D vwCl (H.size, pm_re ad cA (.inr (ci, fs))) H1 := by
          refine ⟨(C, T, N), hr1, (u_born ty0 hw g1 hKn hkC e1 g2).to fun j hj => ?_⟩
          have h5 := x2 j (ty0 j) hj (g2 j hj)
          show defaultValue (ty0 j) = vp_V (fs.map (pm_rv ad)) j
          unfold vp_V
          rw [List.getD_eq_getElem?_getD, List.getElem?_map, h5]
          exact (pm_default_rv _).symm
        have hA1 := hA.made (c := .inr (ci, fs)) hAs z1 o1 hat
        rw [hsz] at hA1
        have hj := hK _ H1 _ _ _ _ _ hA1 hr LS hl
        have ha : ad (16 + h.length) = H.size := hA.1.2.2 0
        have e9 : ((Value.ref (16 + h.length) :: st).map (pm_rv ad)) = .ref H.size :: st.map (pm_rv ad) := by
          rw [List.map_cons]
          show Value.ref (ad (16 + h.length)) :: _ = _
          rw [ha]
        rw [e9] at hj
        exact hj
      · cases hi
    · cases hr
  · rename_i b z w hg
    replace hr := pm_cond_true hr
    obtain ⟨hb1, hr⟩ := hr
    rw [Bool.and_eq_true, pm_len_eq] at hb1
    exact hthr b z w hg hb1.1 (List.length_eq_zero_iff.mp (Nat.eq_of_beq_eq_true hb1.2)) (Option.some.inj hr).symm
  · cases hr
theorem pm_jNwa {t : ArrayType} (F : pm_Fr p s mid args meth c D cA A ad X m E y) (hA : pm_At s D cA A ad m hb sb x h H locs cells slots) (hd : decode (pm_byt y.2.1) pc = .ok (.newarray t, 2))
    (hroom : ∀ (h1 : pm_H) (q : Nat) (ls : pm_L) (st : List Value), ih d h1 m q ls st = some o → h1.length + x ≤ R.cells + hb ∧ pm_slt h1 + 6 * x ≤ R.slots + sb)
    (hK : ∀ h1 H1 cells1 slots1 q ls st, pm_At s D cA A ad m hb sb x h1 H1 locs cells1 slots1 → ih d h1 m q ls st = some o → pm_J p l e R s mid args below meth c H1 locs cells1 slots1 Q ad E.2.1 q ls st) (hr : pm_gNwa t ih d h m E.2.2.1 pc 2 ls st = some o) : pm_J p l e R s mid args below meth c H locs cells slots Q ad E.2.1 pc ls st := by
  intro LS hl
  unfold pm_gNwa at hr
  split at hr
  · rename_i n r
    replace hr := pm_cond_false hr
    obtain ⟨hb1, hr⟩ := hr
    replace hr := pm_cond_true hr
    obtain ⟨hb2, hr⟩ := hr
    replace hr := pm_cond_true hr
    obtain ⟨hb3, hr⟩ := hr
    rw [pm_fn_eq, pm_fn_eq, pm_len_eq, pm_rep_eq] at hr
    have h0 := pm_not_neg hb1
    have h6 : n.toNatClampNeg ≤ 60000 := Nat.le_of_ble_eq_true hb2
    obtain ⟨rm1, rm2⟩ := hroom _ _ _ _ hr
    rw [List.length_append] at rm1
    rw [pm_slt_push] at rm2
    have hsz : pm_sz (.inl ((pm_tc t).1, List.replicate n.toNatClampNeg (pm_tc t).2)) = n.toNatClampNeg := List.length_replicate
    rw [hsz] at rm2
    have c1 : cells + 1 ≤ R.cells := by have := hA.2.2.2.1; simp at rm1; omega
    have c2 : slots + n.toNatClampNeg ≤ R.slots := by have := hA.2.2.2.2; omega
    obtain ⟨hx, hbc, hml, hown, hw, hCx, hnm, he, hy, hAs⟩ := F
    have key : ∀ (ty : FieldType), newarray.typeOf t = ty → (Cond.arrayClass ty).before args s = true → (pm_tys cA)[(pm_tc t).1]? = some (cA (pm_tc t).1, ty) → componentBytes ty ≤ 8 → (∀ cI : ClassId, cI = cA (pm_tc t).1 → va_at D vwCl (H.size, pm_re ad cA (.inl ((pm_tc t).1, List.replicate n.toNatClampNeg (pm_tc t).2))) (H.push (arrV cI n.toNatClampNeg (fun _ => defaultValue ty)))) → (∀ cI, va_RA s cI ty = (s.vm.findClass ("[" ++ ty.toString) = some cI)) → W p l e R s mid args below meth c H locs cells slots Q (F0 mid pc LS ((Value.int n :: r).map (pm_rv ad))) := by
      intro ty hty har htt hcb hat hra
      refine va_newaK (atype := t) hx hbc (by rw [hty]; exact har) rfl hd rfl h0 rfl (by rw [hty]; calc n.toNatClampNeg * componentBytes ty ≤ 60000 * 8 := Nat.mul_le_mul h6 hcb
        _ ≤ 536870912 := by decide) c1 c2 rfl fun H1 cI e1 z1 o1 hAr hNm => ?_
      rw [hty] at e1 hNm
      have hra2 := (hCx.1.2 _ _ htt).2
      rw [hra] at hra2
      have hcI : cI = cA (pm_tc t).1 := Option.some.inj (hNm.symm.trans hra2)
      have hat1 : va_at D vwCl (H.size, pm_re ad cA (.inl ((pm_tc t).1, List.replicate n.toNatClampNeg (pm_tc t).2))) H1 := by
        have h5 := hat cI hcI
        refine h5.kept ?_
        show H1[H.size]? = (H.push _)[H.size]?
        rw [e1, Array.getElem?_push_size]
      have hA1 := hA.made (c := .inl ((pm_tc t).1, List.replicate n.toNatClampNeg (pm_tc t).2)) hAs z1 o1 hat1
      rw [hsz] at hA1
      have hj := hK _ H1 _ _ _ _ _ hA1 hr LS hl
      have ha : ad (16 + h.length) = H.size := hA.1.2.2 0
      have e9 : ((Value.ref (16 + h.length) :: r).map (pm_rv ad)) = .ref H.size :: r.map (pm_rv ad) := by
        rw [List.map_cons]
        show Value.ref (ad (16 + h.length)) :: _ = _
        rw [ha]
      rw [e9] at hj
      exact hj
    have gI : ∀ (z : Nat) (j : Nat), pm_iv ((List.replicate z (Value.int 0)).getD j .null) = 0 := by
      intro z j
      rw [List.getD_eq_getElem?_getD, List.getElem?_replicate]
      split <;> rfl
    have gL : ∀ (z : Nat) (j : Nat), pm_gv ((List.replicate z (Value.long 0)).getD j .null) = 0 := by
      intro z j
      rw [List.getD_eq_getElem?_getD, List.getElem?_replicate]
      split <;> rfl
    have atI : ∀ (u : Nat) (cI : ClassId) (v : FieldType), u ≠ 3 → u < 5 → defaultValue v = .int 0 → cI = cA u → va_at D vwCl (H.size, pm_re ad cA (.inl (u, List.replicate n.toNatClampNeg (.int 0)))) (H.push (arrV cI n.toNatClampNeg (fun _ => defaultValue v))) := by
      intro u cI v hu3 hu5 hv hc
      show (H.push _)[H.size]? = some (vp_cell (cA u) ((List.replicate n.toNatClampNeg (Value.int 0)).length, pm_ct ad u (List.replicate n.toNatClampNeg (Value.int 0))))
      rw [pm_ctI ad _ hu3 hu5, List.length_replicate, Array.getElem?_push_size, hc, hv, vp_cell_i]
      congr 3
      funext j
      rw [gI]
    cases t with
    | int => exact key .int rfl (hw _ (pm_W0_of (by decide +kernel) rfl)) rfl (by decide) (fun cI hc => atI 0 cI .int (by decide) (by decide) rfl hc) (fun _ => rfl)
    | boolean => exact key .boolean rfl (hw _ (pm_W0_of (by decide +kernel) rfl)) rfl (by decide) (fun cI hc => atI 1 cI .boolean (by decide) (by decide) rfl hc) (fun _ => rfl)
    | char => exact key .char rfl (hw _ (pm_W0_of (by decide +kernel) rfl)) rfl (by decide) (fun cI hc => atI 2 cI .char (by decide) (by decide) rfl hc) (fun _ => rfl)
    | byte => exact key .byte rfl (hw _ (pm_W0_of (by decide +kernel) rfl)) rfl (by decide) (fun cI hc => atI 4 cI .byte (by decide) (by decide) rfl hc) (fun _ => rfl)
    | long =>
      refine key .long rfl (hw _ (pm_W0_of (by decide +kernel) rfl)) rfl (by decide) (fun cI hc => ?_) (fun _ => rfl)
      show (H.push _)[H.size]? = some (vp_cell (cA 3) ((List.replicate n.toNatClampNeg (Value.long 0)).length, pm_ct ad 3 (List.replicate n.toNatClampNeg (Value.long 0))))
      rw [pm_ct3, List.length_replicate, Array.getElem?_push_size, hc, vp_cell_l]
      congr 3
      funext j
      rw [gL]
      rfl
    | float => cases hb3
    | double => cases hb3
    | short => cases hb3
  · cases hr
theorem pm_jAnw {ix : Nat} (F : pm_Fr p s mid args meth c D cA A ad X m E y) (hA : pm_At s D cA A ad m hb sb x h H locs cells slots) (hd : decode (pm_byt y.2.1) pc = .ok (.anewarray ix, 3))
    (hroom : ∀ (h1 : pm_H) (q : Nat) (ls : pm_L) (st : List Value), ih d h1 m q ls st = some o → h1.length + x ≤ R.cells + hb ∧ pm_slt h1 + 6 * x ≤ R.slots + sb)
    (hK : ∀ h1 H1 cells1 slots1 q ls st, pm_At s D cA A ad m hb sb x h1 H1 locs cells1 slots1 → ih d h1 m q ls st = some o → pm_J p l e R s mid args below meth c H1 locs cells1 slots1 Q ad E.2.1 q ls st) (hr : pm_gAnw ix ih d h m E.2.2.1 pc 3 ls st = some o) : pm_J p l e R s mid args below meth c H locs cells slots Q ad E.2.1 pc ls st := by
  intro LS hl
  unfold pm_gAnw at hr
  split at hr
  · rename_i n r ci b w hg
    replace hr := pm_cond_false hr
    obtain ⟨hb1, hr⟩ := hr
    replace hr := pm_cond_true hr
    obtain ⟨hb2, hr⟩ := hr
    rw [Bool.and_eq_true] at hb2
    rw [pm_fn_eq, pm_fn_eq, pm_len_eq, pm_rep_eq] at hr
    have h0 := pm_not_neg hb1
    have h6 : n.toNatClampNeg ≤ 60000 := Nat.le_of_ble_eq_true hb2.1
    obtain ⟨i, hi⟩ := pm_link hg
    have hi : (match vwCl[ci]? with
      | some r => decide (tables_1[i]? = some (.classLink (pm_nm E.2.2.1) ix r.1)) && Nat.beq b r.2.2
      | none => false) = true := hi
    obtain ⟨rm1, rm2⟩ := hroom _ _ _ _ hr
    rw [List.length_append] at rm1
    rw [pm_slt_push] at rm2
    have hsz : pm_sz (.inl (5 + ci, List.replicate n.toNatClampNeg Value.null)) = n.toNatClampNeg := List.length_replicate
    rw [hsz] at rm2
    have c1 : cells + 1 ≤ R.cells := by have := hA.2.2.2.1; simp at rm1; omega
    have c2 : slots + n.toNatClampNeg ≤ R.slots := by have := hA.2.2.2.2; omega
    obtain ⟨hx, hbc, hml, hown, hw, hCx, hnm, he, hy, hAs⟩ := F
    have key : ∀ (C : String), C ∈ [RX3, RX7] → (Cond.classLink (pm_nm E.2.2.1) ix C).before args s = true → (pm_tys cA)[5 + ci]? = some (cA (5 + ci), .object C) → W p l e R s mid args below meth c H locs cells slots Q (F0 mid pc LS ((Value.int n :: r).map (pm_rv ad))) := by
      intro C hC hcl htt
      refine W.anew hx hbc hown hcl (va_AO.use (hCx.2.2.1 C hC)) rfl hd rfl h0 (by omega) c1 c2 fun cI kA comp f1 f2 f3 f4 => ?_
      obtain ⟨kA2, comp2, -, -, -, k4⟩ := (hCx.1.2 _ _ htt).2
      have hcI : cI = cA (5 + ci) := Option.some.inj (f1.symm.trans k4)
      have hat1 : va_at D vwCl (H.size, pm_re ad cA (.inl (5 + ci, List.replicate n.toNatClampNeg .null))) (H.push { cls := cI, slots := Array.replicate n.toNatClampNeg .null, vm := .none }) := by
        show (H.push _)[H.size]? = some (vp_cell (cA (5 + ci)) ((List.replicate n.toNatClampNeg Value.null).length, pm_ct ad (5 + ci) (List.replicate n.toNatClampNeg .null)))
        rw [pm_ctQ ad _ (by omega), List.length_replicate, Array.getElem?_push_size, arrV_new, hcI, vp_cell_q]
        congr 3
        funext j
        rw [List.getD_eq_getElem?_getD, List.getElem?_replicate]
        split <;> rfl
      have hA1 := hA.made (c := .inl (5 + ci, List.replicate n.toNatClampNeg .null)) hAs (Array.size_push _) (fun q hq => by rw [Array.getElem?_push, if_neg (Nat.ne_of_lt hq)]) hat1
      rw [hsz] at hA1
      have hj := hK _ _ _ _ _ _ _ hA1 hr LS hl
      have ha : ad (16 + h.length) = H.size := hA.1.2.2 0
      have e9 : ((Value.ref (16 + h.length) :: r).map (pm_rv ad)) = .ref H.size :: r.map (pm_rv ad) := by
        rw [List.map_cons]
        show Value.ref (ad (16 + h.length)) :: _ = _
        rw [ha]
      rw [e9] at hj
      exact hj
    have hok := hb2.2
    unfold pm_okt at hok
    simp only [Bool.or_eq_true] at hok
    rcases hok with (q | q) | q
    · have := pm_blt q; omega
    · have e3 : ci = 3 := by have := Nat.eq_of_beq_eq_true q; omega
      subst e3
      have hi : (decide (tables_1[i]? = some (.classLink (pm_nm E.2.2.1) ix RX3)) && Nat.beq b 4) = true := hi
      rw [Bool.and_eq_true, decide_eq_true_eq] at hi
      exact key RX3 (by simp) (hw _ (pm_W0_at i hi.1 rfl)) rfl
    · have e3 : ci = 7 := by have := Nat.eq_of_beq_eq_true q; omega
      subst e3
      have hi : (decide (tables_1[i]? = some (.classLink (pm_nm E.2.2.1) ix RX7)) && Nat.beq b 7) = true := hi
      rw [Bool.and_eq_true, decide_eq_true_eq] at hi
      exact key RX7 (by simp) (hw _ (pm_W0_at i hi.1 rfl)) rfl
  · cases hr
end PmN
end
section
/-! soundness: constants of the pool, heads of methods, calls -/
theorem pm_cat8_sum {r : List Value} (h : pm_cat8 r = true) : (r.map fun v => v.category).sum ≤ 8 := by
  have e : ∀ r : List Value, (List.rec 0 (fun v _ ih => v.category + ih) r : Nat) = (r.map fun v => v.category).sum := by
    intro r
    induction r with
    | nil => rfl
    | cons a r ih => rw [List.map_cons, List.sum_cons, ← ih]
  unfold pm_cat8 at h
  rw [e] at h
  exact Nat.le_of_ble_eq_true h
theorem pm_cat8_rv {ad : Nat → Nat} {r : List Value} (h : pm_cat8 r = true) : ((r.map (pm_rv ad)).map fun v => v.category).sum ≤ 8 := by
  rw [List.map_map, show ((fun v : Value => v.category) ∘ pm_rv ad) = fun v => v.category from funext fun v => pm_rv_cat ad v]
  exact pm_cat8_sum h
theorem pm_good {L : List Cond} (h : ∀ w ∈ L, w ∈ pm_W0) : GoodIn pm_W0 L := fun w hw => ⟨h w hw, good_of_word (List.mem_filter.mp (h w hw)).2⟩
/-- a head: its words -/
theorem pm_hd_ok {kd : Nat} {y : pm_Hd} {e : pm_M} {ps : Nat × Nat × Nat × Nat} (h : pm_ckh kd y e ps = true) (hk : kd = 1 ∨ kd = 2 ∨ kd = 3) : Cond.code y.1 (pm_byt y.2.1) e.2.1 y.2.2 ∈ pm_W0 ∧ Cond.initialized y.1.cls ∈ pm_W0 ∧ y.1.cls = pm_nm e.2.2.1 ∧ pm_tyok e.2.2.2.1 y.2.2 = true ∧ e.2.1 ≤ 80 ∧ Jvm.plainName y.1.cls = true ∧ (y.1.cls ≠ "java/lang/invoke/MethodHandle" ∧ y.1.cls ≠ "java/lang/invoke/VarHandle") ∧
    (kd = 1 → Cond.instanceMethod y.1 ∈ pm_W0 ∧ Cond.selects y.1.cls y.1 y.1 ∈ pm_W0 ∧ (parseMethodDescriptor y.1.desc).map (fun d => d.parameters.length + 1) = some e.1) ∧ (kd = 2 → Cond.static y.1 ∈ pm_W0 ∧ (parseMethodDescriptor y.1.desc).map (fun d => d.parameters.length) = some e.1) ∧ (kd = 3 → Cond.instanceMethod y.1 ∈ pm_W0 ∧ y.1.name = "<init>" ∧ (parseMethodDescriptor y.1.desc).map (fun d => d.parameters.length + 1) = some e.1) := by
  unfold pm_ckh at h
  rw [Bool.or_eq_true] at h
  have h := h.resolve_left (fun q => by rcases hk with rfl | rfl | rfl <;> cases q)
  simp only [Bool.and_eq_true] at h
  obtain ⟨h1, h2, h3, h4, h5, h6, h7, h8, h9, h10⟩ := h
  refine ⟨?_, pm_W0_at _ (of_decide_eq_true h3) rfl, of_decide_eq_true h4, h5, Nat.le_of_ble_eq_true h6, h7, ⟨of_decide_eq_true h8, of_decide_eq_true h9⟩, ?_, ?_, ?_⟩
  · split at h1
    · rename_i y2 b l2 r2 hw
      simp only [Bool.and_eq_true, decide_eq_true_eq] at h1
      obtain ⟨q1, q2, q3⟩ := h1
      have q2 := Nat.eq_of_beq_eq_true q2
      subst q1; subst q2; subst q3
      have hb : pm_byt y.2.1 = b := by
        unfold pm_byt
        cases hz : Nat.beq y.2.1 99999 with
        | true => rw [hz] at h2; cases h2
        | false => rw [cond_false, hw]
      rw [hb]
      exact pm_W0_at _ hw rfl
    · cases h1
  · rintro rfl
    simp only [Bool.and_eq_true, decide_eq_true_eq] at h10
    exact ⟨pm_W0_at _ h10.1 rfl, List.mem_filter.mpr ⟨List.mem_of_getElem? h10.2.1, rfl⟩, h10.2.2⟩
  · rintro rfl
    simp only [Bool.and_eq_true, decide_eq_true_eq] at h10
    exact ⟨pm_W0_at _ h10.1 rfl, h10.2⟩
  · rintro rfl
    simp only [Bool.and_eq_true, decide_eq_true_eq] at h10
    exact ⟨pm_W0_at _ h10.1 rfl, h10.2.1, h10.2.2⟩
/-- a link to a method -/
theorem pm_lkM {own ix kd m' na ci : Nat} (hg : pm_get (pm_lnk own) ix = some (kd, m', na, ci)) (hk : kd = 1 ∨ kd = 2 ∨ kd = 3 ∨ kd = 14) : ∃ y e, pm_get pm_hds m' = some y ∧ pm_ent m' = some e ∧ pm_get pm_kdt m' = some kd ∧ e.1 = na ∧ ((kd = 1 ∨ kd = 3) → e.2.2.1 = ci) ∧ (Cond.methodLink (pm_nm own) ix y.1 ∈ tables_1 ∨ Cond.methodLinkNest (pm_nm own) ix y.1 "RiverWage" ∈ tables_1) := by
  obtain ⟨i, hi⟩ := pm_link hg
  have hi : ((Nat.beq kd 1 || Nat.beq kd 2 || Nat.beq kd 3 || Nat.beq kd 14) && match pm_get pm_hds m', pm_ent m' with
    | some y, some e => (decide (tables_1[i]? = some (.methodLink (pm_nm own) ix y.1)) || decide (tables_1[i]? = some (.methodLinkNest (pm_nm own) ix y.1 "RiverWage"))) && ((match pm_get pm_kdt m' with
      | some kd' => Nat.beq kd' kd
      | none => false) && (Nat.beq e.1 na && (Nat.beq kd 2 || (Nat.beq kd 14 || (Nat.beq e.2.2.1 ci)))))
    | _, _ => false) = true := by
    rcases hk with rfl | rfl | rfl | rfl <;> exact hi
  rw [Bool.and_eq_true] at hi
  obtain ⟨-, hi⟩ := hi
  split at hi
  · rename_i y e h1 h2
    simp only [Bool.and_eq_true] at hi
    obtain ⟨q1, q2, q3, q4⟩ := hi
    refine ⟨y, e, h1, h2, ?_, Nat.eq_of_beq_eq_true q3, ?_, ?_⟩
    · split at q2
      · rename_i kd' hkd
        rw [hkd, Nat.eq_of_beq_eq_true q2]
      · cases q2
    · intro hz
      simp only [Bool.or_eq_true] at q4
      rcases q4 with q | q | q
      · have := Nat.eq_of_beq_eq_true q; omega
      · have := Nat.eq_of_beq_eq_true q; omega
      · exact Nat.eq_of_beq_eq_true q
    · simp only [Bool.or_eq_true, decide_eq_true_eq] at q1
      rcases q1 with q | q
      · exact Or.inl (List.mem_of_getElem? q)
      · exact Or.inr (List.mem_of_getElem? q)
  · cases hi
def pm_wsm (y : pm_Hd) (e : pm_M) : List Cond := Cond.code y.1 (pm_byt y.2.1) e.2.1 y.2.2 :: pm_W0
/-- a call's start: its arguments, the picture -/
def pm_Pc (D : va_G) (cA : Nat → ClassId) (A : Nat → Prop) (ad : Nat → Nat) (X : List (Nat × List Value)) (h : pm_H) (As : List Value) : Array Value → State → Prop := fun v U => v = (As.map (pm_rv ad)).toArray ∧ pm_Cx D cA A ad X U ∧ pm_rel D cA A ad h U.heap ∧ ∀ q : Nat, U.heap.size ≤ q → A q
/-- its end -/
def pm_Qc (D : va_G) (cA : Nat → ClassId) (A : Nat → Prop) (ad : Nat → Nat) (h1 : pm_H) (v : Option Value) : Array Value → State → Outcome → State → Prop := fun _ st oc t => oc = .returned (v.map (pm_rv ad)) ∧ pm_rel D cA A ad h1 t.heap ∧ va_F A st t
def pm_rm (d mc ms : Nat) : Room := { frames := d + 10, cells := mc, slots := ms, locals := 100 * d + 200 }
/-- the contract of a method at given arguments and a given picture -/
def pm_Mt (l : Launch) (D : va_G) (cA : Nat → ClassId) (A : Nat → Prop) (ad : Nat → Nat) (X : List (Nat × List Value)) (y : pm_Hd) (e : pm_M) (d : Nat) (h : pm_H) (As : List Value) (h1 : pm_H) (v : Option Value) : Prop :=
  Met l y.1 (pm_wsm y e) (pm_rm d (h1.length - h.length) (pm_slt h1 - pm_slt h)) (pm_Pc D cA A ad X h As) (pm_Qc D cA A ad h1 v) (h1.length - h.length) (pm_slt h1 - pm_slt h) A
theorem pm_Pc_blind {D : va_G} {cA : Nat → ClassId} {A : Nat → Prop} {ad : Nat → Nat} {X : List (Nat × List Value)} {h : pm_H} {As : List Value} : FrameBlind (pm_Pc D cA A ad X h As) := by
  intro a U g mk q
  exact ⟨q.1, q.2.1.same rfl rfl, q.2.2.1, q.2.2.2⟩
section PmC
variable {p : Program} {l : Launch} {e : Env} {R : Room} {s : State} {mid : MethodId} {args : Array Value} {below : List Frame} {meth : Method} {c : Code} {H : Heap} {locs : List Loc} {cells slots : Nat} {Q : State → Prop}
variable {D : va_G} {cA : Nat → ClassId} {A : Nat → Prop} {ad : Nat → Nat} {X : List (Nat × List Value)} {m : Nat} {E : pm_M} {y : pm_Hd} {hb sb x : Nat} {h : pm_H}
variable {d pc len : Nat} {ls : pm_L} {st : List Value} {ih : pm_I} {o : pm_H × (Option Value ⊕ Unit)}
theorem pm_jLdc {ix : Nat} (F : pm_Fr p s mid args meth c D cA A ad X m E y) (hd : decode (pm_byt y.2.1) pc = .ok (.ldc ix, 2))
    (hK : ∀ q ls st, ih d h m q ls st = some o → pm_J p l e R s mid args below meth c H locs cells slots Q ad E.2.1 q ls st) (hr : pm_gLdc ix ih d h m E.2.2.1 pc 2 ls st = some o) : pm_J p l e R s mid args below meth c H locs cells slots Q ad E.2.1 pc ls st := by
  intro LS hl
  unfold pm_gLdc at hr
  split at hr
  · rename_i n b z hg
    rw [pm_fn_eq] at hr
    have hc := pm_jLdcI F (Or.inr ⟨_, _, hg⟩)
    obtain ⟨hx, hbc, hml, hown, -⟩ := F
    exact lv_ldc hx hbc hown hc hd (hK _ _ _ hr LS hl)
  · rename_i a b z hg
    rw [pm_fn_eq] at hr
    obtain ⟨i, hi⟩ := pm_link hg
    have hi : pm_strs.any (fun r => Nat.beq r.1 E.2.2.1 && (Nat.beq r.2.1 ix && Nat.beq r.2.2.2 a)) = true := hi
    obtain ⟨r, hr1, hr2⟩ := List.any_eq_true.mp hi
    simp only [Bool.and_eq_true] at hr2
    obtain ⟨q1, q2, q3⟩ := hr2
    have q1 := Nat.eq_of_beq_eq_true q1
    have q2 := Nat.eq_of_beq_eq_true q2
    have q3 := Nat.eq_of_beq_eq_true q3
    obtain ⟨hx, hbc, hml, hown, hw, hCx, -⟩ := F
    have hs := hCx.2.2.2.2.2.1 r hr1
    rw [q1, q2, q3] at hs
    exact va_ldcS hx hbc hown hs hd (hK _ _ _ hr LS hl)
  · cases hr
theorem pm_jLdw {ix : Nat} (F : pm_Fr p s mid args meth c D cA A ad X m E y) (hd : decode (pm_byt y.2.1) pc = .ok (.ldc_w ix, 3))
    (hK : ∀ q ls st, ih d h m q ls st = some o → pm_J p l e R s mid args below meth c H locs cells slots Q ad E.2.1 q ls st) (hr : pm_gLdw ix ih d h m E.2.2.1 pc 3 ls st = some o) : pm_J p l e R s mid args below meth c H locs cells slots Q ad E.2.1 pc ls st := by
  intro LS hl
  unfold pm_gLdw at hr
  split at hr
  · rename_i n b z hg
    rw [pm_fn_eq] at hr
    have hc := pm_jLdcI F (Or.inr ⟨_, _, hg⟩)
    obtain ⟨hx, hbc, hml, hown, -⟩ := F
    exact lv_ldcw hx hbc hown hc hd (hK _ _ _ hr LS hl)
  · cases hr
theorem pm_jLd2 {ix : Nat} (F : pm_Fr p s mid args meth c D cA A ad X m E y) (hd : decode (pm_byt y.2.1) pc = .ok (.ldc2_w ix, 3))
    (hK : ∀ q ls st, ih d h m q ls st = some o → pm_J p l e R s mid args below meth c H locs cells slots Q ad E.2.1 q ls st) (hr : pm_gLd2 ix ih d h m E.2.2.1 pc 3 ls st = some o) : pm_J p l e R s mid args below meth c H locs cells slots Q ad E.2.1 pc ls st := by
  intro LS hl
  unfold pm_gLd2 at hr
  split at hr
  · rename_i n b z hg
    rw [pm_fn_eq] at hr
    have hc := pm_ldcJ F hg
    obtain ⟨hx, hbc, hml, hown, -⟩ := F
    exact lv_ldc2 hx hbc hown hc hd (hK _ _ _ hr LS hl)
  · cases hr
theorem pm_jSta {ix : Nat} (F : pm_Fr p s mid args meth c D cA A ad X m E y) (hA : pm_At s D cA A ad m hb sb x h H locs cells slots) (hd : decode (pm_byt y.2.1) pc = .ok (.getstatic ix, 3))
    (hK : ∀ q ls st, ih d h m q ls st = some o → pm_J p l e R s mid args below meth c H locs cells slots Q ad E.2.1 q ls st) (hr : pm_gSta ix ih d h m E.2.2.1 pc 3 ls st = some o) : pm_J p l e R s mid args below meth c H locs cells slots Q ad E.2.1 pc ls st := by
  intro LS hl
  unfold pm_gSta at hr
  split at hr
  · rename_i a b z hg
    rw [pm_fn_eq] at hr
    obtain ⟨i, hi⟩ := pm_link hg
    have hi : (Nat.ble 1 a && (Nat.ble a 3 && decide (tables_1[i]? = some (.fieldLink (pm_nm E.2.2.1) ix (pm_stn a).1 (pm_stn a).2 "[I")))) = true := hi
    simp only [Bool.and_eq_true, decide_eq_true_eq] at hi
    obtain ⟨q1, q2, q3⟩ := hi
    obtain ⟨hx, hbc, hml, hown, hw, hCx, -⟩ := F
    exact va_gets (ref := (pm_stn a).1) hx hbc (hCx.2.2.2.2.1 a (Nat.le_of_ble_eq_true q1) (Nat.le_of_ble_eq_true q2)) hA.2.1 hown (hw _ (pm_W0_at i q3 rfl)) (fun _ q => q) hd (hK _ _ _ hr LS hl)
  · cases hr
/-- behind a call: the new picture -/
theorem pm_after {LS : Array Slot} {st0 rest : List Value} {h1 : pm_H} {v : Option Value} {a0 : Array Value} (hr : va_Run p l e R s mid args below meth c H locs cells slots (h1.length - h.length) (pm_slt h1 - pm_slt h) (F0 mid pc LS st0) rest (pm_Qc D cA A ad h1 v a0) A) (hA : pm_At s D cA A ad m hb sb x h H locs cells slots) (hl1 : h.length ≤ h1.length) (hl2 : pm_slt h ≤ pm_slt h1)
    (kk : ∀ (H1 : Heap) (locs1 : List Loc), pm_At s D cA A ad m hb sb x h1 H1 locs1 (cells + (h1.length - h.length)) (slots + (pm_slt h1 - pm_slt h)) → W p l e R s mid args below meth c H1 locs1 (cells + (h1.length - h.length)) (slots + (pm_slt h1 - pm_slt h)) Q (F0 mid (pc + 3) LS ((v.map (pm_rv ad)).toList ++ rest))) : W p l e R s mid args below meth c H locs cells slots Q (F0 mid pc LS st0) := by
  intro T hT X
  obtain ⟨v', st₀, t, T', L, h0, X', hL, e1, e2, ⟨hv, hrel, hF⟩, st⟩ := hr T hT X
  have hv' : v' = v.map (pm_rv ad) := by cases hv; rfl
  subst hv'
  obtain ⟨a1, a2, a3, a4, a5⟩ := hA
  have hz : t.heap.size = H.size + (h1.length - h.length) := by
    have q1 := a1.2.2 (h1.length - h.length)
    have q2 := hrel.2.2 0
    rw [show 16 + h.length + (h1.length - h.length) = 16 + h1.length + 0 by omega] at q1
    omega
  obtain ⟨t2, b1, b2⟩ := kk T'.heap (locs ++ L) ⟨by rw [e1]; exact hrel, ⟨by rw [e1]; have := a2.1; omega, fun q g1 g2 => by
      rw [e1, hF.2 q (by rw [h0]; exact Nat.lt_of_lt_of_le g1 a2.1) g2, h0]
      exact a2.2.1 q g1 g2, fun q hq => by
      rcases List.mem_append.mp hq with g | g
      · exact a2.2.2 q g
      · exact hL q g⟩, by
      rcases a3 with g | ⟨g1, g2⟩
      · exact Or.inl g
      · exact Or.inr ⟨g1, by rw [e1, hz]; omega⟩, by omega, by omega⟩ T' rfl X'
  exact ⟨t2, st t2 b1, b2⟩
/-- a call's start out of the frame -/
theorem pm_pre {As : List Value} (F : pm_Fr p s mid args meth c D cA A ad X m E y) (hA : pm_At s D cA A ad m hb sb x h H locs cells slots) : ∀ U : State, U.heap = H → s.WarmedH U.vm → pm_Pc D cA A ad X h As (As.map (pm_rv ad)).toArray U := by
  intro U hU hW
  obtain ⟨hx, hbc, hml, hown, hw, hCx, hnm, he, hy, hAs⟩ := F
  exact ⟨rfl, hCx.go hW (by rw [hU]; exact hA.2.1), by rw [hU]; exact hA.1, fun q hq => hAs q (Nat.le_trans hA.2.1.1 (by rw [← hU]; exact hq))⟩
end PmC
end
section
/-! one step of the picture machine, an instruction a case (printed by wip/tool/one.py) -/
theorem pm_lnE {k len : Nat} (hk : k ≠ 0) (h : (Nat.beq k 0 || Nat.beq k len) = true) : len = k := by
  rw [Bool.or_eq_true] at h
  rcases h with q | q
  · exact absurd (Nat.eq_of_beq_eq_true q) hk
  · exact (Nat.eq_of_beq_eq_true q).symm
/-- what a frame ends with -/
def pm_End (y : pm_Hd) (e : pm_M) (r : Option Value ⊕ Unit) (pc : Nat) (st : List Value) : Prop := match r with
  | .inl none => decode (pm_byt y.2.1) pc = .ok (.return_, 1) ∧ st = [] ∧ e.2.2.2.1 = 4
  | .inl (some v) => st = [v] ∧ pm_fit e.2.2.2.1 v = true ∧ ((e.2.2.2.1 ≤ 1 ∧ decode (pm_byt y.2.1) pc = .ok (.ireturn, 1)) ∨ (e.2.2.2.1 = 2 ∧ decode (pm_byt y.2.1) pc = .ok (.lreturn, 1)) ∨ (e.2.2.2.1 = 3 ∧ decode (pm_byt y.2.1) pc = .ok (.areturn, 1)))
  | .inr _ => st = [] ∧ ∃ ix b z w, decode (pm_byt y.2.1) pc = .ok (.new ix, 3) ∧ pm_get (pm_lnk e.2.2.1) ix = some (13, b, z, w) ∧ e.2.2.1 = 11 ∧ decode (pm_byt y.2.1) (pc + 3) = .ok (.dup, 1) ∧ decode (pm_byt y.2.1) (pc + 4) = .ok (.invokespecial 184, 3) ∧ decode (pm_byt y.2.1) (pc + 7) = .ok (.athrow, 1)
theorem pm_thr {m pc ix b z w : Nat} {e : pm_M} {y : pm_Hd} (he : pm_ent m = some e) (hy : pm_get pm_hds m = some y) (hok : pm_oki m e y pc (.new ix) = true) (hg : pm_get (pm_lnk e.2.2.1) ix = some (13, b, z, w)) : e.2.2.1 = 11 ∧ decode (pm_byt y.2.1) (pc + 3) = .ok (.dup, 1) ∧ decode (pm_byt y.2.1) (pc + 4) = .ok (.invokespecial 184, 3) ∧ decode (pm_byt y.2.1) (pc + 7) = .ok (.athrow, 1) := by
  have h : (match pm_get (pm_lnk e.2.2.1) ix with
    | some K => !Nat.beq K.1 13 || (Nat.beq e.2.2.1 11 && (decide (pm_get e.2.2.2.2 (pc + 3) = some (.dup, 1)) && (decide (pm_get e.2.2.2.2 (pc + 4) = some (.invokespecial 184, 3)) && decide (pm_get e.2.2.2.2 (pc + 7) = some (.athrow, 1)))))
    | none => true) = true := hok
  rw [hg] at h
  have h : (false || (Nat.beq e.2.2.1 11 && (decide (pm_get e.2.2.2.2 (pc + 3) = some (.dup, 1)) && (decide (pm_get e.2.2.2.2 (pc + 4) = some (.invokespecial 184, 3)) && decide (pm_get e.2.2.2.2 (pc + 7) = some (.athrow, 1)))))) = true := h
  simp only [Bool.false_or, Bool.and_eq_true, decide_eq_true_eq] at h
  obtain ⟨h1, h2, h3, h4⟩ := h
  exact ⟨Nat.eq_of_beq_eq_true h1, (pm_code he hy h2).1, (pm_code he hy h3).1, (pm_code he hy h4).1⟩
section PmO
variable {p : Program} {l : Launch} {e : Env} {R : Room} {s : State} {mid : MethodId} {args : Array Value} {below : List Frame} {meth : Method} {c : Code} {H : Heap} {locs : List Loc} {cells slots : Nat} {Q : State → Prop}
variable {D : va_G} {cA : Nat → ClassId} {A : Nat → Prop} {ad : Nat → Nat} {X : List (Nat × List Value)} {m : Nat} {E : pm_M} {y : pm_Hd} {hb sb x : Nat} {h : pm_H}
variable {d pc len : Nat} {ls : pm_L} {st : List Value} {ih : pm_I} {o : pm_H × (Option Value ⊕ Unit)}
set_option maxHeartbeats 4000000 in
theorem pm_one {i : Instr} (F : pm_Fr p s mid args meth c D cA A ad X m E y) (hX : pm_X0 X) (hA : pm_At s D cA A ad m hb sb x h H locs cells slots) (hd : decode (pm_byt y.2.1) pc = .ok (i, len)) (hln : (Nat.beq (pm_ln i) 0 || Nat.beq (pm_ln i) len) = true) (hok : pm_oki m E y pc i = true)
    (hroom : ∀ (h1 : pm_H) (q : Nat) (ls : pm_L) (st : List Value), ih d h1 m q ls st = some o → h1.length + x ≤ R.cells + hb ∧ pm_slt h1 + 6 * x ≤ R.slots + sb)
    (hK : ∀ h1 H1 locs1 cells1 slots1 q ls st, pm_At s D cA A ad m hb sb x h1 H1 locs1 cells1 slots1 → ih d h1 m q ls st = some o → pm_J p l e R s mid args below meth c H1 locs1 cells1 slots1 Q ad E.2.1 q ls st)
    (hend : o.1 = h → pm_End y E o.2 pc st → (∀ z, o.2 = .inr z → pm_scH h = true) → pm_J p l e R s mid args below meth c H locs cells slots Q ad E.2.1 pc ls st)
    (hinv : ∀ how ix, ((how = 1 ∧ i = .invokevirtual ix) ∨ (how = 2 ∧ i = .invokestatic ix) ∨ (how = 3 ∧ i = .invokespecial ix)) → len = 3 → pm_gInv X how ix ih d h m E.2.2.1 pc 3 ls st = some o → pm_J p l e R s mid args below meth c H locs cells slots Q ad E.2.1 pc ls st)
    (hr : pm_dsp X i ih d h m E.2.2.1 pc len ls st = some o) : pm_J p l e R s mid args below meth c H locs cells slots Q ad E.2.1 pc ls st := by
  have hK0 : ∀ q ls st, ih d h m q ls st = some o → pm_J p l e R s mid args below meth c H locs cells slots Q ad E.2.1 q ls st := fun q ls st => hK h H locs cells slots q ls st hA
  have hx := F.1
  have hbc := F.2.1
  cases i with
  | iconst n =>
    have hlen := pm_lnE (k := 1) (by decide) hln
    subst hlen
    have hr : pm_sC (.int (Int32.ofInt n)) (ih d h m) pc 1 ls st = some o := hr
    exact pm_jC (fun LS rest k => lv_iconst hx hbc hd rfl k) rfl hK0 hr
  | bipush n =>
    have hlen := pm_lnE (k := 2) (by decide) hln
    subst hlen
    have hr : pm_sC (.int (Int8.ofInt n).toInt32) (ih d h m) pc 2 ls st = some o := hr
    exact pm_jC (fun LS rest k => lv_bipush hx hbc hd rfl k) rfl hK0 hr
  | sipush n =>
    have hlen := pm_lnE (k := 3) (by decide) hln
    subst hlen
    have hr : pm_sC (.int (Int16.ofInt n).toInt32) (ih d h m) pc 3 ls st = some o := hr
    exact pm_jC (fun LS rest k => lv_sipush hx hbc hd rfl k) rfl hK0 hr
  | lconst n =>
    have hlen := pm_lnE (k := 1) (by decide) hln
    subst hlen
    have hr : pm_sC (.long (Int64.ofNat n.val)) (ih d h m) pc 1 ls st = some o := hr
    exact pm_jC (fun LS rest k => lv_lconst hx hbc hd rfl k) rfl hK0 hr
  | aload k =>
    have hlen := pm_lnE (k := 2) (by decide) hln
    subst hlen
    have hr : pm_sAld k (ih d h m) pc 2 ls st = some o := hr
    exact pm_jAld (fun x LS rest h1 k => lv_aload hx hbc hd h1 k) hK0 hr
  | aload_n k =>
    have hlen := pm_lnE (k := 1) (by decide) hln
    subst hlen
    have hr : pm_sAld k.val (ih d h m) pc 1 ls st = some o := hr
    exact pm_jAld (fun x LS rest h1 k => lv_aload_n hx hbc hd rfl h1 k) hK0 hr
  | iload k =>
    have hlen := pm_lnE (k := 2) (by decide) hln
    subst hlen
    have hr : pm_sIld k (ih d h m) pc 2 ls st = some o := hr
    exact pm_jIld (fun x LS rest h1 k => lv_iload hx hbc hd h1 k) hK0 hr
  | iload_n k =>
    have hlen := pm_lnE (k := 1) (by decide) hln
    subst hlen
    have hr : pm_sIld k.val (ih d h m) pc 1 ls st = some o := hr
    exact pm_jIld (fun x LS rest h1 k => lv_iload_n hx hbc hd rfl h1 k) hK0 hr
  | lload k =>
    have hlen := pm_lnE (k := 2) (by decide) hln
    subst hlen
    have hr : pm_sLld k (ih d h m) pc 2 ls st = some o := hr
    exact pm_jLld (fun x LS rest h1 k => lv_lload hx hbc hd h1 k) hK0 hr
  | lload_n k =>
    have hlen := pm_lnE (k := 1) (by decide) hln
    subst hlen
    have hr : pm_sLld k.val (ih d h m) pc 1 ls st = some o := hr
    exact pm_jLld (fun x LS rest h1 k => lv_lload_n hx hbc hd rfl h1 k) hK0 hr
  | istore k =>
    have hlen := pm_lnE (k := 2) (by decide) hln
    subst hlen
    have hr : pm_sIst k (ih d h m) pc 2 ls st = some o := hr
    exact pm_jIst (fun x LS rest lv h1 h2 kk => lv_istore hx hbc hd h1 h2 rfl kk) hK0 hr
  | istore_n k =>
    have hlen := pm_lnE (k := 1) (by decide) hln
    subst hlen
    have hr : pm_sIst k.val (ih d h m) pc 1 ls st = some o := hr
    exact pm_jIst (fun x LS rest lv h1 h2 kk => lv_istore_n hx hbc hd rfl h1 h2 rfl kk) hK0 hr
  | astore k =>
    have hlen := pm_lnE (k := 2) (by decide) hln
    subst hlen
    have hr : pm_sAst k (ih d h m) pc 2 ls st = some o := hr
    exact pm_jAst (fun x LS rest lv h1 h2 kk => lv_astore hx hbc hd h1 h2 rfl kk) hK0 hr
  | astore_n k =>
    have hlen := pm_lnE (k := 1) (by decide) hln
    subst hlen
    have hr : pm_sAst k.val (ih d h m) pc 1 ls st = some o := hr
    exact pm_jAst (fun x LS rest lv h1 h2 kk => lv_astore_n hx hbc hd rfl h1 h2 rfl kk) hK0 hr
  | lstore k =>
    have hlen := pm_lnE (k := 2) (by decide) hln
    subst hlen
    have hr : pm_sLst k (ih d h m) pc 2 ls st = some o := hr
    exact pm_jLst (fun x LS rest lv h1 h2 kk => lv_lstore hx hbc hd h1 h2 rfl kk) hK0 hr
  | lstore_n k =>
    have hlen := pm_lnE (k := 1) (by decide) hln
    subst hlen
    have hr : pm_sLst k.val (ih d h m) pc 1 ls st = some o := hr
    exact pm_jLst (fun x LS rest lv h1 h2 kk => lv_lstore_n hx hbc hd rfl h1 h2 rfl kk) hK0 hr
  | iinc k n =>
    have hlen := pm_lnE (k := 3) (by decide) hln
    subst hlen
    have hr : pm_sInc k n (ih d h m) pc 3 ls st = some o := hr
    exact pm_jInc (fun x LS rest lv j h1 h2 h3 kk => lv_iinc hx hbc hd h1 h2 rfl h3 rfl kk) hK0 hr
  | iadd =>
    have hlen := pm_lnE (k := 1) (by decide) hln
    subst hlen
    have hr : pm_sII (fun x y => x + y) (ih d h m) pc 1 ls st = some o := hr
    exact pm_jII (fun x y LS rest k => lv_iadd hx hbc hd k) hK0 hr
  | isub =>
    have hlen := pm_lnE (k := 1) (by decide) hln
    subst hlen
    have hr : pm_sII (fun x y => x - y) (ih d h m) pc 1 ls st = some o := hr
    exact pm_jII (fun x y LS rest k => lv_isub hx hbc hd k) hK0 hr
  | imul =>
    have hlen := pm_lnE (k := 1) (by decide) hln
    subst hlen
    have hr : pm_sII (fun x y => x * y) (ih d h m) pc 1 ls st = some o := hr
    exact pm_jII (fun x y LS rest k => lv_imul hx hbc hd k) hK0 hr
  | iand =>
    have hlen := pm_lnE (k := 1) (by decide) hln
    subst hlen
    have hr : pm_sII (fun x y => x &&& y) (ih d h m) pc 1 ls st = some o := hr
    exact pm_jII (fun x y LS rest k => lv_iand hx hbc hd k) hK0 hr
  | ior =>
    have hlen := pm_lnE (k := 1) (by decide) hln
    subst hlen
    have hr : pm_sII (fun x y => x ||| y) (ih d h m) pc 1 ls st = some o := hr
    exact pm_jII (fun x y LS rest k => lv_ior hx hbc hd k) hK0 hr
  | ishl =>
    have hlen := pm_lnE (k := 1) (by decide) hln
    subst hlen
    have hr : pm_sII (fun x y => x <<< (y &&& 31)) (ih d h m) pc 1 ls st = some o := hr
    exact pm_jII (fun x y LS rest k => lv_ishl hx hbc hd k) hK0 hr
  | ishr =>
    have hlen := pm_lnE (k := 1) (by decide) hln
    subst hlen
    have hr : pm_sII (fun x y => x >>> (y &&& 31)) (ih d h m) pc 1 ls st = some o := hr
    exact pm_jII (fun x y LS rest k => lv_ishr hx hbc hd k) hK0 hr
  | iushr =>
    have hlen := pm_lnE (k := 1) (by decide) hln
    subst hlen
    have hr : pm_sII (fun x y => (x.toUInt32 >>> (y.toUInt32 &&& Int32.toUInt32 31)).toInt32) (ih d h m) pc 1 ls st = some o := hr
    exact pm_jII (fun x y LS rest k => lv_iushr hx hbc hd rfl k) hK0 hr
  | idiv =>
    have hlen := pm_lnE (k := 1) (by decide) hln
    subst hlen
    have hr : pm_sIIz (fun x y => x / y) (ih d h m) pc 1 ls st = some o := hr
    exact pm_jIIz (fun x y LS rest h0 k => lv_idiv hx hbc hd h0 k) hK0 hr
  | irem =>
    have hlen := pm_lnE (k := 1) (by decide) hln
    subst hlen
    have hr : pm_sIIz (fun x y => x - x / y * y) (ih d h m) pc 1 ls st = some o := hr
    exact pm_jIIz (fun x y LS rest h0 k => lv_irem hx hbc hd h0 k) hK0 hr
  | ineg =>
    have hlen := pm_lnE (k := 1) (by decide) hln
    subst hlen
    have hr : pm_sI (fun x => -x) (ih d h m) pc 1 ls st = some o := hr
    exact pm_jI (fun x LS rest k => lv_ineg hx hbc hd k) hK0 hr
  | ladd =>
    have hlen := pm_lnE (k := 1) (by decide) hln
    subst hlen
    have hr : pm_sLL (fun x y => x + y) (ih d h m) pc 1 ls st = some o := hr
    exact pm_jLL (fun x y LS rest k => lv_ladd hx hbc hd k) hK0 hr
  | lsub =>
    have hlen := pm_lnE (k := 1) (by decide) hln
    subst hlen
    have hr : pm_sLL (fun x y => x - y) (ih d h m) pc 1 ls st = some o := hr
    exact pm_jLL (fun x y LS rest k => lv_lsub hx hbc hd k) hK0 hr
  | lmul =>
    have hlen := pm_lnE (k := 1) (by decide) hln
    subst hlen
    have hr : pm_sLL (fun x y => x * y) (ih d h m) pc 1 ls st = some o := hr
    exact pm_jLL (fun x y LS rest k => lv_lmul hx hbc hd k) hK0 hr
  | land =>
    have hlen := pm_lnE (k := 1) (by decide) hln
    subst hlen
    have hr : pm_sLL (fun x y => x &&& y) (ih d h m) pc 1 ls st = some o := hr
    exact pm_jLL (fun x y LS rest k => lv_land hx hbc hd k) hK0 hr
  | lor =>
    have hlen := pm_lnE (k := 1) (by decide) hln
    subst hlen
    have hr : pm_sLL (fun x y => x ||| y) (ih d h m) pc 1 ls st = some o := hr
    exact pm_jLL (fun x y LS rest k => lv_lor hx hbc hd k) hK0 hr
  | ldiv =>
    have hlen := pm_lnE (k := 1) (by decide) hln
    subst hlen
    have hr : pm_sLLz (fun x y => x / y) (ih d h m) pc 1 ls st = some o := hr
    exact pm_jLLz (fun x y LS rest h0 k => lv_ldiv hx hbc hd h0 k) hK0 hr
  | lrem =>
    have hlen := pm_lnE (k := 1) (by decide) hln
    subst hlen
    have hr : pm_sLLz (fun x y => x - x / y * y) (ih d h m) pc 1 ls st = some o := hr
    exact pm_jLLz (fun x y LS rest h0 k => lv_lrem hx hbc hd h0 k) hK0 hr
  | lneg =>
    have hlen := pm_lnE (k := 1) (by decide) hln
    subst hlen
    have hr : pm_sL (fun x => -x) (ih d h m) pc 1 ls st = some o := hr
    exact pm_jL (fun x LS rest k => lv_lneg hx hbc hd k) hK0 hr
  | lshl =>
    have hlen := pm_lnE (k := 1) (by decide) hln
    subst hlen
    have hr : pm_sLI (fun x y => x <<< (y.toInt64 &&& 63)) (ih d h m) pc 1 ls st = some o := hr
    exact pm_jLI (fun x y LS rest k => lv_lshl hx hbc hd rfl k) hK0 hr
  | lshr =>
    have hlen := pm_lnE (k := 1) (by decide) hln
    subst hlen
    have hr : pm_sLI (fun x y => x >>> (y.toInt64 &&& 63)) (ih d h m) pc 1 ls st = some o := hr
    exact pm_jLI (fun x y LS rest k => lv_lshr hx hbc hd rfl k) hK0 hr
  | lushr =>
    have hlen := pm_lnE (k := 1) (by decide) hln
    subst hlen
    have hr : pm_sLI (fun x y => (x.toUInt64 >>> (y.toInt64.toUInt64 &&& Int64.toUInt64 63)).toInt64) (ih d h m) pc 1 ls st = some o := hr
    exact pm_jLI (fun x y LS rest k => lv_lushr hx hbc hd rfl k) hK0 hr
  | lcmp =>
    have hlen := pm_lnE (k := 1) (by decide) hln
    subst hlen
    have hr : pm_sCmp (ih d h m) pc 1 ls st = some o := hr
    exact pm_jCmp (fun x y LS rest k => W.lcmp hx hbc hd k) hK0 hr
  | i2l =>
    have hlen := pm_lnE (k := 1) (by decide) hln
    subst hlen
    have hr : pm_sIL (fun x => x.toInt64) (ih d h m) pc 1 ls st = some o := hr
    exact pm_jIL (fun x LS rest k => lv_i2l hx hbc hd rfl k) hK0 hr
  | l2i =>
    have hlen := pm_lnE (k := 1) (by decide) hln
    subst hlen
    have hr : pm_sLi (fun x => x.toInt32) (ih d h m) pc 1 ls st = some o := hr
    exact pm_jLi (fun x LS rest k => lv_l2i hx hbc hd rfl k) hK0 hr
  | i2b =>
    have hlen := pm_lnE (k := 1) (by decide) hln
    subst hlen
    have hr : pm_sI (fun x => x.toInt8.toInt32) (ih d h m) pc 1 ls st = some o := hr
    exact pm_jI (fun x LS rest k => lv_i2b hx hbc hd rfl k) hK0 hr
  | i2c =>
    have hlen := pm_lnE (k := 1) (by decide) hln
    subst hlen
    have hr : pm_sI (fun x => (x.toUInt32 % 65536).toInt32) (ih d h m) pc 1 ls st = some o := hr
    exact pm_jI (fun x LS rest k => lv_i2c hx hbc hd rfl k) hK0 hr
  | dup =>
    have hlen := pm_lnE (k := 1) (by decide) hln
    subst hlen
    have hr : pm_sDup (ih d h m) pc 1 ls st = some o := hr
    exact pm_jDup (fun v LS rest h1 k => lv_dup hx hbc hd h1 k) hK0 hr
  | pop =>
    have hlen := pm_lnE (k := 1) (by decide) hln
    subst hlen
    have hr : pm_sPop (ih d h m) pc 1 ls st = some o := hr
    exact pm_jPop (fun v LS rest h1 k => lv_pop hx hbc hd h1 k) hK0 hr
  | ifCond cd off =>
    have hlen := pm_lnE (k := 3) (by decide) hln
    subst hlen
    have hr : pm_sIf cd off (ih d h m) pc 3 ls st = some o := hr
    exact pm_jIf (fun x LS rest t ht k1 k2 => pm_rowIf hx hbc hd x LS rest t ht k1 k2) hK0 hr
  | if_icmp cd off =>
    have hlen := pm_lnE (k := 3) (by decide) hln
    subst hlen
    have hr : pm_sIf2 cd off (ih d h m) pc 3 ls st = some o := hr
    exact pm_jIf2 (fun x y LS rest t ht k1 k2 => pm_rowIf2 hx hbc hd x y LS rest t ht k1 k2) hK0 hr
  | goto off =>
    have hlen := pm_lnE (k := 3) (by decide) hln
    subst hlen
    have hr : pm_sGo off (ih d h m) pc 3 ls st = some o := hr
    exact pm_jGo (fun LS rest t ht k => lv_goto hx hbc hd ht k) hK0 hr
  | tableswitch d0 lo hi offs =>
    have hr : pm_sTsw d0 lo hi offs (ih d h m) pc len ls st = some o := hr
    exact pm_jTsw hx hbc hd hK0 hr
  | lookupswitch d0 ps =>
    have hr : pm_sLsw d0 ps (ih d h m) pc len ls st = some o := hr
    exact pm_jLsw hx hbc hd hK0 hr
  | ldc ix =>
    have hlen := pm_lnE (k := 2) (by decide) hln
    subst hlen
    have hr : pm_gLdc ix ih d h m E.2.2.1 pc 2 ls st = some o := hr
    exact pm_jLdc F hd hK0 hr
  | ldc_w ix =>
    have hlen := pm_lnE (k := 3) (by decide) hln
    subst hlen
    have hr : pm_gLdw ix ih d h m E.2.2.1 pc 3 ls st = some o := hr
    exact pm_jLdw F hd hK0 hr
  | ldc2_w ix =>
    have hlen := pm_lnE (k := 3) (by decide) hln
    subst hlen
    have hr : pm_gLd2 ix ih d h m E.2.2.1 pc 3 ls st = some o := hr
    exact pm_jLd2 F hd hK0 hr
  | getstatic ix =>
    have hlen := pm_lnE (k := 3) (by decide) hln
    subst hlen
    have hr : pm_gSta ix ih d h m E.2.2.1 pc 3 ls st = some o := hr
    exact pm_jSta F hA hd hK0 hr
  | getfield ix =>
    have hlen := pm_lnE (k := 3) (by decide) hln
    subst hlen
    have hr : pm_gGet ix ih d h m E.2.2.1 pc 3 ls st = some o := hr
    exact pm_jGet F hA hd hK0 hr
  | putfield ix =>
    have hlen := pm_lnE (k := 3) (by decide) hln
    subst hlen
    have hr : pm_gPut ix ih d h m E.2.2.1 pc 3 ls st = some o := hr
    have hok : (!Nat.beq m 309 && match pm_get (pm_lnk E.2.2.1) ix with
      | some K => match vwCl[K.2.1]? with
        | some r => !(r.2.1 K.2.2.1).2.2.2 || (Nat.beq K.2.1 E.2.2.1 && decide (y.1.name = "<init>"))
        | none => true
      | none => true) = true := hok
    rw [Bool.and_eq_true] at hok
    have hm : m ≠ 309 := fun q => by
      rw [q] at hok
      exact absurd hok.1 (by decide)
    refine pm_jPut F hA hd hm (fun ci k t C T N hg hv hf => ?_) (fun h1 H1 locs1 q ls st => hK h1 H1 locs1 cells slots q ls st) hr
    have h2 := hok.2
    rw [hg] at h2
    dsimp only at h2
    rw [hv] at h2
    dsimp only at h2
    rw [hf] at h2
    simp only [Bool.not_true, Bool.false_or, Bool.and_eq_true, decide_eq_true_eq] at h2
    exact ⟨Nat.eq_of_beq_eq_true h2.1, h2.2⟩
  | new ix =>
    have hlen := pm_lnE (k := 3) (by decide) hln
    subst hlen
    have hr : pm_gNew X ix ih d h m E.2.2.1 pc 3 ls st = some o := hr
    exact pm_jNew F hX hA hd hroom (fun b z w hg hs hst ho => hend (by rw [ho]) (by rw [ho]; exact ⟨hst, ix, b, z, w, hd, hg, pm_thr F.2.2.2.2.2.2.2.1 F.2.2.2.2.2.2.2.2.1 hok hg⟩) (fun _ _ => hs)) (fun h1 H1 c1 s1 q ls st => hK h1 H1 locs c1 s1 q ls st) hr
  | newarray t =>
    have hlen := pm_lnE (k := 2) (by decide) hln
    subst hlen
    have hr : pm_gNwa t ih d h m E.2.2.1 pc 2 ls st = some o := hr
    exact pm_jNwa F hA hd hroom (fun h1 H1 c1 s1 q ls st => hK h1 H1 locs c1 s1 q ls st) hr
  | anewarray ix =>
    have hlen := pm_lnE (k := 3) (by decide) hln
    subst hlen
    have hr : pm_gAnw ix ih d h m E.2.2.1 pc 3 ls st = some o := hr
    exact pm_jAnw F hA hd hroom (fun h1 H1 c1 s1 q ls st => hK h1 H1 locs c1 s1 q ls st) hr
  | arraylength =>
    have hlen := pm_lnE (k := 1) (by decide) hln
    subst hlen
    have hr : pm_gLen X ih d h m E.2.2.1 pc 1 ls st = some o := hr
    exact pm_jLen F hA hd hK0 hr
  | iaload =>
    have hlen := pm_lnE (k := 1) (by decide) hln
    subst hlen
    have hr : pm_gAld X 0 0 ih d h m E.2.2.1 pc 1 ls st = some o := hr
    exact pm_jIald F hA (pm_rowI F hA hd) (fun _ => hd) hK0 hr
  | baload =>
    have hlen := pm_lnE (k := 1) (by decide) hln
    subst hlen
    have hr : pm_gAld X 1 4 ih d h m E.2.2.1 pc 1 ls st = some o := hr
    exact pm_jIald F hA (pm_rowB F hA hd) (fun q => by omega) hK0 hr
  | caload =>
    have hlen := pm_lnE (k := 1) (by decide) hln
    subst hlen
    have hr : pm_gAld X 2 2 ih d h m E.2.2.1 pc 1 ls st = some o := hr
    exact pm_jIald F hA (pm_rowC F hA hd) (fun q => by omega) hK0 hr
  | laload =>
    have hlen := pm_lnE (k := 1) (by decide) hln
    subst hlen
    have hr : pm_gLald X ih d h m E.2.2.1 pc 1 ls st = some o := hr
    exact pm_jLald F hA hd hK0 hr
  | aaload =>
    have hlen := pm_lnE (k := 1) (by decide) hln
    subst hlen
    have hr : pm_gAald ih d h m E.2.2.1 pc 1 ls st = some o := hr
    exact pm_jAald F hA hd hK0 hr
  | iastore =>
    have hlen := pm_lnE (k := 1) (by decide) hln
    subst hlen
    have hr : pm_gIst 0 (fun x => x) ih d h m E.2.2.1 pc 1 ls st = some o := hr
    have hok : (!Nat.beq m 309) = true := hok
    have hm : m ≠ 309 := fun q => by
      rw [q] at hok
      exact absurd hok (by decide)
    refine pm_jIast hA hm (by decide) (by decide) (fun k v j z LS rest hk hin kk => ?_) (fun h1 H1 locs1 q ls st => hK h1 H1 locs1 cells slots q ls st) hr
    have ha := pm_ws_at (ad := ad) (cA := cA) hk
    rw [show pm_re ad cA (.inl (0, v)) = .inl (cA 0, v.length, .inl (fun j => pm_iv (v.getD j .null))) from rfl] at ha
    exact va_iast hx hbc F.2.2.2.2.2.1.1 hA.1.1 hA.1.2.1 (pm_S_self hA.2.1) k 0 ha rfl hin hd kk
  | bastore =>
    have hlen := pm_lnE (k := 1) (by decide) hln
    subst hlen
    have hr : pm_gIst 1 (fun x => x &&& 1) ih d h m E.2.2.1 pc 1 ls st = some o := hr
    have hok : (!Nat.beq m 309) = true := hok
    have hm : m ≠ 309 := fun q => by
      rw [q] at hok
      exact absurd hok (by decide)
    refine pm_jIast hA hm (by decide) (by decide) (fun k v j z LS rest hk hin kk => ?_) (fun h1 H1 locs1 q ls st => hK h1 H1 locs1 cells slots q ls st) hr
    have ha := pm_ws_at (ad := ad) (cA := cA) hk
    rw [show pm_re ad cA (.inl (1, v)) = .inl (cA 1, v.length, .inl (fun j => pm_iv (v.getD j .null))) from rfl] at ha
    exact va_zast hx hbc F.2.2.2.2.2.1.1 hA.1.1 hA.1.2.1 (pm_S_self hA.2.1) k 1 ha rfl hin hd kk
  | castore =>
    have hlen := pm_lnE (k := 1) (by decide) hln
    subst hlen
    have hr : pm_gIst 2 (fun x => x.toUInt32.toUInt16.toUInt32.toInt32) ih d h m E.2.2.1 pc 1 ls st = some o := hr
    have hok : (!Nat.beq m 309) = true := hok
    have hm : m ≠ 309 := fun q => by
      rw [q] at hok
      exact absurd hok (by decide)
    refine pm_jIast hA hm (by decide) (by decide) (fun k v j z LS rest hk hin kk => ?_) (fun h1 H1 locs1 q ls st => hK h1 H1 locs1 cells slots q ls st) hr
    have ha := pm_ws_at (ad := ad) (cA := cA) hk
    rw [show pm_re ad cA (.inl (2, v)) = .inl (cA 2, v.length, .inl (fun j => pm_iv (v.getD j .null))) from rfl] at ha
    exact va_cast hx hbc F.2.2.2.2.2.1.1 hA.1.1 hA.1.2.1 (pm_S_self hA.2.1) k 2 ha rfl hin hd kk
  | lastore =>
    have hlen := pm_lnE (k := 1) (by decide) hln
    subst hlen
    have hr : pm_gLst ih d h m E.2.2.1 pc 1 ls st = some o := hr
    have hok : (!Nat.beq m 309) = true := hok
    have hm : m ≠ 309 := fun q => by
      rw [q] at hok
      exact absurd hok (by decide)
    exact pm_jLast F hA hm hd (fun h1 H1 locs1 q ls st => hK h1 H1 locs1 cells slots q ls st) hr
  | aastore =>
    have hlen := pm_lnE (k := 1) (by decide) hln
    subst hlen
    have hr : pm_gAst ih d h m E.2.2.1 pc 1 ls st = some o := hr
    have hok : (!Nat.beq m 309) = true := hok
    have hm : m ≠ 309 := fun q => by
      rw [q] at hok
      exact absurd hok (by decide)
    exact pm_jAast F hA hm hd (fun h1 H1 locs1 q ls st => hK h1 H1 locs1 cells slots q ls st) hr
  | invokestatic ix =>
    have hlen := pm_lnE (k := 3) (by decide) hln
    subst hlen
    have hr : pm_gInv X 2 ix ih d h m E.2.2.1 pc 3 ls st = some o := hr
    exact hinv 2 ix (Or.inr (Or.inl ⟨rfl, rfl⟩)) rfl hr
  | invokevirtual ix =>
    have hlen := pm_lnE (k := 3) (by decide) hln
    subst hlen
    have hr : pm_gInv X 1 ix ih d h m E.2.2.1 pc 3 ls st = some o := hr
    exact hinv 1 ix (Or.inl ⟨rfl, rfl⟩) rfl hr
  | invokespecial ix =>
    have hlen := pm_lnE (k := 3) (by decide) hln
    subst hlen
    have hr : pm_gInv X 3 ix ih d h m E.2.2.1 pc 3 ls st = some o := hr
    exact hinv 3 ix (Or.inr (Or.inr ⟨rfl, rfl⟩)) rfl hr
  | ireturn =>
    have hlen := pm_lnE (k := 1) (by decide) hln
    subst hlen
    have hr : pm_gRet 0 1 ih d h m E.2.2.1 pc 1 ls st = some o := hr
    unfold pm_gRet at hr
    split at hr
    · rename_i v
      rw [F.2.2.2.2.2.2.2.1] at hr
      dsimp only at hr
      replace hr := pm_cond_true hr
      obtain ⟨hb1, hr⟩ := hr
      replace hr := pm_cond_true hr
      obtain ⟨hb2, hr⟩ := hr
      replace hr := pm_cond_true hr
      obtain ⟨hb3, hr⟩ := hr
      have ho := (Option.some.inj hr).symm
      have q1 := Nat.le_of_ble_eq_true hb1
      have q2 := Nat.le_of_ble_eq_true hb2
      exact hend (by rw [ho]) (by rw [ho]; exact ⟨rfl, hb3, Or.inl ⟨q2, hd⟩⟩) (fun z hz => by rw [ho] at hz; cases hz)
    · cases hr
  | lreturn =>
    have hlen := pm_lnE (k := 1) (by decide) hln
    subst hlen
    have hr : pm_gRet 2 2 ih d h m E.2.2.1 pc 1 ls st = some o := hr
    unfold pm_gRet at hr
    split at hr
    · rename_i v
      rw [F.2.2.2.2.2.2.2.1] at hr
      dsimp only at hr
      replace hr := pm_cond_true hr
      obtain ⟨hb1, hr⟩ := hr
      replace hr := pm_cond_true hr
      obtain ⟨hb2, hr⟩ := hr
      replace hr := pm_cond_true hr
      obtain ⟨hb3, hr⟩ := hr
      have ho := (Option.some.inj hr).symm
      have q1 := Nat.le_of_ble_eq_true hb1
      have q2 := Nat.le_of_ble_eq_true hb2
      exact hend (by rw [ho]) (by rw [ho]; exact ⟨rfl, hb3, Or.inr (Or.inl ⟨by omega, hd⟩)⟩) (fun z hz => by rw [ho] at hz; cases hz)
    · cases hr
  | areturn =>
    have hlen := pm_lnE (k := 1) (by decide) hln
    subst hlen
    have hr : pm_gRet 3 3 ih d h m E.2.2.1 pc 1 ls st = some o := hr
    unfold pm_gRet at hr
    split at hr
    · rename_i v
      rw [F.2.2.2.2.2.2.2.1] at hr
      dsimp only at hr
      replace hr := pm_cond_true hr
      obtain ⟨hb1, hr⟩ := hr
      replace hr := pm_cond_true hr
      obtain ⟨hb2, hr⟩ := hr
      replace hr := pm_cond_true hr
      obtain ⟨hb3, hr⟩ := hr
      have ho := (Option.some.inj hr).symm
      have q1 := Nat.le_of_ble_eq_true hb1
      have q2 := Nat.le_of_ble_eq_true hb2
      exact hend (by rw [ho]) (by rw [ho]; exact ⟨rfl, hb3, Or.inr (Or.inr ⟨by omega, hd⟩)⟩) (fun z hz => by rw [ho] at hz; cases hz)
    · cases hr
  | return_ =>
    have hlen := pm_lnE (k := 1) (by decide) hln
    subst hlen
    have hr : pm_gRtv ih d h m E.2.2.1 pc 1 ls st = some o := hr
    unfold pm_gRtv at hr
    split at hr
    · rw [F.2.2.2.2.2.2.2.1] at hr
      dsimp only at hr
      replace hr := pm_cond_true hr
      obtain ⟨hb1, hr⟩ := hr
      have ho := (Option.some.inj hr).symm
      exact hend (by rw [ho]) (by rw [ho]; exact ⟨hd, rfl, Nat.eq_of_beq_eq_true hb1⟩) (fun z hz => by rw [ho] at hz; cases hz)
    · cases hr
  | _ => exact nomatch (show (none : pm_R) = some o from hr)
end PmO
end
section
/-! soundness: calls of methods that return -/
/-- a picture that has grown -/
def pm_le (h h1 : pm_H) : Prop := h.length ≤ h1.length ∧ pm_slt h ≤ pm_slt h1
theorem pm_le.rf (h : pm_H) : pm_le h h := ⟨Nat.le_refl _, Nat.le_refl _⟩
theorem pm_le.tr {a b c : pm_H} (h1 : pm_le a b) (h2 : pm_le b c) : pm_le a c := ⟨Nat.le_trans h1.1 h2.1, Nat.le_trans h1.2 h2.2⟩
theorem pm_pop_acc : ∀ (n : Nat) (st acc : List Value) (As rest : List Value), pm_pop n st acc = some (As, rest) → ∃ B : List Value, st = B ++ rest ∧ B.length = n ∧ As = B.reverse ++ acc
  | 0, st, acc, As, rest, h => by
    have h : some (acc, st) = some (As, rest) := h
    cases h
    exact ⟨[], rfl, rfl, rfl⟩
  | n + 1, [], acc, As, rest, h => by
    have h : (none : Option (List Value × List Value)) = some (As, rest) := h
    cases h
  | n + 1, v :: st, acc, As, rest, h => by
    have h : pm_pop n st (v :: acc) = some (As, rest) := h
    obtain ⟨B, h1, h2, h3⟩ := pm_pop_acc n st (v :: acc) As rest h
    exact ⟨v :: B, by rw [h1]; rfl, by simp [h2], by simp [h3]⟩
theorem pm_pop_some {n : Nat} {st As rest : List Value} (h : pm_pop n st [] = some (As, rest)) : st = As.reverse ++ rest ∧ As.length = n := by
  obtain ⟨B, h1, h2, h3⟩ := pm_pop_acc n st [] As rest h
  rw [List.append_nil] at h3
  subst h3
  exact ⟨by rw [List.reverse_reverse]; exact h1, by rw [List.length_reverse]; exact h2⟩
theorem pm_cl_nm {ci : Nat} {r : vw_C} (h : vwCl[ci]? = some r) : r.1 = pm_nm ci := by
  match ci, h with
  | 0, h => cases h; rfl
  | 1, h => cases h; rfl
  | 2, h => cases h; rfl
  | 3, h => cases h; rfl
  | 4, h => cases h; rfl
  | 5, h => cases h; rfl
  | 6, h => cases h; rfl
  | 7, h => cases h; rfl
  | 8, h => cases h; rfl
  | 9, h => cases h; rfl
  | 10, h => cases h; rfl
  | 11, h => cases h; rfl
  | 12, h => cases h; rfl
  | n + 13, h => cases h
theorem pm_ini_all : pm_kdt.all (fun c => c.all (fun q => !(Nat.beq q.2 3) || (match pm_ent q.1 with
  | some e => Nat.beq e.2.2.2.1 4
  | none => false))) = true := by decide +kernel
theorem pm_ini {m : Nat} {e : pm_M} (h : pm_get pm_kdt m = some 3) (he : pm_ent m = some e) : e.2.2.2.1 = 4 := by
  obtain ⟨c, hc, hm⟩ := pm_get_mem h
  have h1 := List.all_eq_true.mp (List.all_eq_true.mp pm_ini_all c hc) _ hm
  dsimp only at h1
  rw [he] at h1
  have h2 : (false || Nat.beq e.2.2.2.1 4) = true := h1
  rw [Bool.false_or] at h2
  exact Nat.eq_of_beq_eq_true h2
section PmI
variable {p : Program} {l : Launch} {e : Env} {R : Room} {s : State} {mid : MethodId} {args : Array Value} {below : List Frame} {meth : Method} {c : Code} {H : Heap} {locs : List Loc} {cells slots : Nat} {Q : State → Prop}
variable {D : va_G} {cA : Nat → ClassId} {A : Nat → Prop} {ad : Nat → Nat} {X : List (Nat × List Value)} {m : Nat} {E : pm_M} {y : pm_Hd} {hb sb x : Nat} {h : pm_H}
variable {d pc len : Nat} {ls : pm_L} {st : List Value} {ih : pm_I} {o : pm_H × (Option Value ⊕ Unit)}
theorem pm_NW_of {own ix : Nat} {y' : MethodName} (h : Cond.methodLinkNest (pm_nm own) ix y' "RiverWage" ∈ tables_1) : Cond.methodLinkNest (pm_nm own) ix y' "RiverWage" ∈ pm_NW := List.mem_filter.mpr ⟨h, rfl⟩
/-- a call that returns, by its kind: the machine runs it -/
theorem pm_run {how ix m' na ci d' : Nat} {As rest : List Value} {h1 : pm_H} {v : Option Value} {LS : Array Slot} {y' : pm_Hd} {e' : pm_M} (F : pm_Fr p s mid args meth c D cA A ad X m E y) (hA : pm_At s D cA A ad m hb sb x h H locs cells slots) (hl : pm_lr ad E.2.1 ls LS)
    (hg : pm_get (pm_lnk E.2.2.1) ix = some (how, m', na, ci)) (hhow : how = 1 ∨ how = 2 ∨ how = 3) (hd1 : (how = 1 → decode (pm_byt y.2.1) pc = .ok (.invokevirtual ix, 3)) ∧ (how = 2 → decode (pm_byt y.2.1) pc = .ok (.invokestatic ix, 3)) ∧ (how = 3 → decode (pm_byt y.2.1) pc = .ok (.invokespecial ix, 3)))
    (hy' : pm_get pm_hds m' = some y') (he' : pm_ent m' = some e') (hpop : pm_pop na st [] = some (As, rest)) (hcat : pm_cat8 rest = true)
    (hrcv : how = 1 → ∃ a r fs, As = .ref a :: r ∧ pm_cell h a = some (.inr (ci, fs))) (hrcv3 : how = 3 → ∃ a r, As = .ref a :: r)
    (hR : d' + 11 ≤ R.frames ∧ 100 * d' + 300 ≤ R.locals) (hle : pm_le h h1) (hf : cells + (h1.length - h.length) ≤ R.cells ∧ slots + (pm_slt h1 - pm_slt h) ≤ R.slots)
    (hM : pm_Mt l D cA A ad X y' e' d' h As h1 v) :
    va_Run p l e R s mid args below meth c H locs cells slots (h1.length - h.length) (pm_slt h1 - pm_slt h) (F0 mid pc LS (st.map (pm_rv ad))) (rest.map (pm_rv ad)) (pm_Qc D cA A ad h1 v (As.map (pm_rv ad)).toArray) A := by
  obtain ⟨y2, e2, q1, q2, q3, q4, q5, q6⟩ := pm_lkM hg (by omega)
  have ey : y2 = y' := Option.some.inj (q1.symm.trans hy')
  have ee : e2 = e' := Option.some.inj (q2.symm.trans he')
  subst ey; subst ee
  obtain ⟨y3, e3, ps, r1, r2, r3⟩ := pm_head q3
  have ey : y3 = y2 := Option.some.inj (r1.symm.trans hy')
  have ee : e3 = e2 := Option.some.inj (r2.symm.trans he')
  subst ey; subst ee
  obtain ⟨w1, w2, w3, w4, w5, w6, w7, w8, w9, w10⟩ := pm_hd_ok r3 hhow
  have hpre := pm_pre (As := As) F hA
  have F' := F
  obtain ⟨hx, hbc, hml, hown, hw, hCx, hnm, he, hyy, hAs⟩ := F
  have hS : CallFix p mid c (pm_byt y.2.1) E.2.1 s args pm_W0 (pm_nm E.2.2.1) := ⟨hx, hbc, hml, hown, hw⟩
  have hG : GoodIn pm_W0 (pm_wsm y3 e3) := pm_good fun w hw9 => by
    rcases List.mem_cons.mp hw9 with rfl | hw9
    · exact w1
    · exact hw9
  have hRR : (pm_rm d' (h1.length - h.length) (pm_slt h1 - pm_slt h)).frames + 1 ≤ R.frames ∧ 8 + (e3.2.1 + 11) + (pm_rm d' (h1.length - h.length) (pm_slt h1 - pm_slt h)).locals ≤ R.locals := ⟨hR.1, by show 8 + (e3.2.1 + 11) + (100 * d' + 200) ≤ R.locals; omega⟩
  obtain ⟨hst, hlen⟩ := pm_pop_some hpop
  have hst' : st.map (pm_rv ad) = (As.map (pm_rv ad)).reverse ++ rest.map (pm_rv ad) := by rw [hst, List.map_append, List.map_reverse]
  have hW8 : 2 * (F0 mid pc LS (st.map (pm_rv ad))).monitorRoom + ((rest.map (pm_rv ad)).map fun v => v.category).sum ≤ 8 := lv_room (pm_cat8_rv hcat)
  have hNw : ∀ {z : MethodName}, Cond.methodLinkNest (pm_nm E.2.2.1) ix z "RiverWage" ∈ tables_1 → va_Nw (.methodLinkNest (pm_nm E.2.2.1) ix z "RiverWage") s := fun hz => hCx.2.1 _ (pm_NW_of hz)
  rcases hhow with rfl | rfl | rfl
  · obtain ⟨a, r, fs, rfl, hc⟩ := hrcv rfl
    obtain ⟨v1, v2, v3⟩ := w8 rfl
    obtain ⟨k0, rfl, -, hk0⟩ := pm_cell_some hc
    obtain ⟨rr, hrr, -⟩ := hA.1.1 k0 _ (pm_ws_at hk0)
    have hnmc : rr.1 = y3.1.cls := by rw [pm_cl_nm hrr, w3, q5 (Or.inl rfl)]
    have hrec := va_recv hCx.1 hA.1.1 hrr (pm_ws_at hk0)
    rw [hnmc] at hrec
    have hn : (r.map (pm_rv ad)).length = e3.1 - 1 := by
      have : r.length + 1 = na := hlen
      rw [List.length_map]; omega
    have hdesc : (parseMethodDescriptor y3.1.desc).map (fun d => d.parameters.length) = some (e3.1 - 1) := by
      cases hpd : parseMethodDescriptor y3.1.desc with
      | none => rw [hpd] at v3; cases v3
      | some sg =>
        rw [hpd] at v3
        have : sg.parameters.length + 1 = e3.1 := Option.some.inj v3
        show some sg.parameters.length = some (e3.1 - 1)
        rw [← this]; rfl
    have hst2 : (F0 mid pc LS (st.map (pm_rv ad))).stack = (r.map (pm_rv ad)).reverse ++ .ref (ad (16 + k0)) :: rest.map (pm_rv ad) := by
      show st.map (pm_rv ad) = _
      rw [hst', List.map_cons, List.reverse_cons, List.append_assoc]
      rfl
    rcases q6 with q6 | q6
    · exact va_runV hS hM ⟨callB_of (e3.1 - 1) hw hG rfl rfl rfl (hw _ w2) (hw _ (pm_W0_of q6 rfl)) ⟨w7.1, w7.2, hdesc⟩ hRR, hw _ v1, hw _ v2⟩ ⟨pm_Pc_blind, hrec, hpre⟩ rfl hn hl.1 hst2 hW8 (hd1.1 rfl) hf
    · exact va_runVN hS hM ⟨va_cnB (e3.1 - 1) hw hG rfl rfl rfl (hNw q6) (hw _ w2) ⟨w7.1, w7.2, hdesc⟩ hRR, hw _ v1, hw _ v2⟩ ⟨pm_Pc_blind, hrec, hpre⟩ rfl hn hl.1 hst2 hW8 (hd1.1 rfl) hf
  · obtain ⟨v1, v2⟩ := w9 rfl
    have hn : (As.map (pm_rv ad)).length = e3.1 := by rw [List.length_map]; omega
    rcases q6 with q6 | q6
    · exact va_runS hS hM ⟨callB_of e3.1 hw hG rfl rfl rfl (hw _ w2) (hw _ (pm_W0_of q6 rfl)) ⟨w7.1, w7.2, v2⟩ hRR, hw _ v1⟩ ⟨pm_Pc_blind, hpre⟩ rfl hn hl.1 hst' hW8 (hd1.2.1 rfl) hf
    · exact va_runSN hS hM ⟨va_cnB e3.1 hw hG rfl rfl rfl (hNw q6) (hw _ w2) ⟨w7.1, w7.2, v2⟩ hRR, hw _ v1, trivial⟩ ⟨pm_Pc_blind, hpre⟩ rfl hn hl.1 hst' hW8 (hd1.2.1 rfl) hf
  · obtain ⟨a, r, rfl⟩ := hrcv3 rfl
    obtain ⟨v1, v2, v3⟩ := w10 rfl
    have hn : (r.map (pm_rv ad)).length = e3.1 - 1 := by
      have : r.length + 1 = na := hlen
      rw [List.length_map]; omega
    have hdesc : (parseMethodDescriptor y3.1.desc).map (fun d => d.parameters.length) = some (e3.1 - 1) := by
      cases hpd : parseMethodDescriptor y3.1.desc with
      | none => rw [hpd] at v3; cases v3
      | some sg =>
        rw [hpd] at v3
        have : sg.parameters.length + 1 = e3.1 := Option.some.inj v3
        show some sg.parameters.length = some (e3.1 - 1)
        rw [← this]; rfl
    have hst2 : (F0 mid pc LS (st.map (pm_rv ad))).stack = (r.map (pm_rv ad)).reverse ++ .ref (ad a) :: rest.map (pm_rv ad) := by
      show st.map (pm_rv ad) = _
      rw [hst', List.map_cons, List.reverse_cons, List.append_assoc]
      rfl
    have hret : y3.2.2 = none := by
      have h4 := pm_ini q3 he'
      rw [h4] at w4
      cases hz : y3.2.2 with
      | none => rfl
      | some ty => rw [hz] at w4; cases w4
    have hws : pm_wsm y3 e3 = Cond.code y3.1 (pm_byt y3.2.1) e3.2.1 none :: pm_W0 := by unfold pm_wsm; rw [hret]
    rcases q6 with q6 | q6
    · exact va_runI hS hM ⟨callB_of (e3.1 - 1) hw hG hws rfl rfl (hw _ w2) (hw _ (pm_W0_of q6 rfl)) ⟨w7.1, w7.2, hdesc⟩ hRR, v2, hw _ v1⟩ ⟨pm_Pc_blind, hpre⟩ rfl hn hl.1 hst2 hW8 (hd1.2.2 rfl) hf
    · exact va_runIN hS hM ⟨va_cnB (e3.1 - 1) hw hG hws rfl rfl (hNw q6) (hw _ w2) ⟨w7.1, w7.2, hdesc⟩ hRR, v2, hw _ v1⟩ ⟨pm_Pc_blind, hpre⟩ rfl hn hl.1 hst2 hW8 (hd1.2.2 rfl) hf
/-- a call in a frame of the class or the reference -/
theorem pm_jCall {how ix m' na ci : Nat} {As rest : List Value} (F : pm_Fr p s mid args meth c D cA A ad X m E y) (hA : pm_At s D cA A ad m hb sb x h H locs cells slots)
    (hg : pm_get (pm_lnk E.2.2.1) ix = some (how, m', na, ci)) (hhow : how = 1 ∨ how = 2 ∨ how = 3) (hd1 : (how = 1 → decode (pm_byt y.2.1) pc = .ok (.invokevirtual ix, 3)) ∧ (how = 2 → decode (pm_byt y.2.1) pc = .ok (.invokestatic ix, 3)) ∧ (how = 3 → decode (pm_byt y.2.1) pc = .ok (.invokespecial ix, 3)))
    (hpop : pm_pop na st [] = some (As, rest)) (hcat : pm_cat8 rest = true) (hrcv : how = 1 → ∃ a r fs, As = .ref a :: r ∧ pm_cell h a = some (.inr (ci, fs))) (hrcv3 : how = 3 → ∃ a r, As = .ref a :: r)
    (hR : d + 10 ≤ R.frames ∧ 100 * d + 200 ≤ R.locals) (hroom : ∀ (h1 : pm_H) (q : Nat) (ls : pm_L) (st : List Value), ih d h1 m q ls st = some o → h1.length + x ≤ R.cells + hb ∧ pm_slt h1 + 6 * x ≤ R.slots + sb)
    (hmono : ∀ d' h0 m0 q ls st h1 v, ih d' h0 m0 q ls st = some (h1, v) → pm_le h0 h1)
    (hM : ∀ d' m' y' e' As h1 v, pm_get pm_hds m' = some y' → pm_ent m' = some e' → pm_get pm_kdt m' = some how → As.length = e'.1 → (pm_lay As e'.2.1).length = e'.2.1 → ih d' h m' 0 (pm_lay As e'.2.1) [] = some (h1, .inl v) → pm_Mt l D cA A ad X y' e' d' h As h1 v)
    (hK : ∀ h1 H1 locs1 cells1 slots1 q ls st, pm_At s D cA A ad m hb sb x h1 H1 locs1 cells1 slots1 → ih d h1 m q ls st = some o → pm_J p l e R s mid args below meth c H1 locs1 cells1 slots1 Q ad E.2.1 q ls st)
    (hr : pm_call ih d h m pc ls m' As rest false = some o) : pm_J p l e R s mid args below meth c H locs cells slots Q ad E.2.1 pc ls st := by
  intro LS hl
  unfold pm_call at hr
  split at hr
  · cases hr
  · rename_i d'
    split at hr
    · cases hr
    · rename_i e' he'
      replace hr := pm_cond_true hr
      obtain ⟨hb1, hr⟩ := hr
      rw [pm_len_eq] at hb1
      have hb1 := Nat.eq_of_beq_eq_true hb1
      split at hr
      · rename_i h1 v hrun
        rw [pm_fn_eq] at hr
        obtain ⟨y2, e2, q1, q2, q3, q4, q5, q6⟩ := pm_lkM hg (by omega)
        have ee : e2 = e' := Option.some.inj (q2.symm.trans he')
        subst ee
        have hle := hmono _ _ _ _ _ _ _ _ hrun
        obtain ⟨-, hlen⟩ := pm_pop_some hpop
        have hm := hM d' m' y2 e2 As h1 v q1 he' q3 (by omega) hb1 hrun
        obtain ⟨rm1, rm2⟩ := hroom _ _ _ _ hr
        have a4 := hA.2.2.2.1
        have a5 := hA.2.2.2.2
        have l1 := hle.1
        have l2 := hle.2
        refine pm_after (pm_run F hA hl hg hhow hd1 q1 he' hpop hcat hrcv hrcv3 ⟨by omega, by omega⟩ hle ⟨by omega, by omega⟩ hm) hA hle.1 hle.2 fun H1 locs1 hA1 => ?_
        have hj := hK _ _ _ _ _ _ _ _ hA1 hr LS hl
        cases v with
        | none => exact hj
        | some v => exact hj
      · cases hr
      · cases hr
end PmI
end
section
/-! soundness: what is called by its meaning (fill apart) -/
section PmP
variable {p : Program} {l : Launch} {e : Env} {R : Room} {s : State} {mid : MethodId} {args : Array Value} {below : List Frame} {meth : Method} {c : Code} {H : Heap} {locs : List Loc} {cells slots : Nat} {Q : State → Prop}
variable {D : va_G} {cA : Nat → ClassId} {A : Nat → Prop} {ad : Nat → Nat} {X : List (Nat × List Value)} {m : Nat} {E : pm_M} {y : pm_Hd} {hb sb x : Nat} {h : pm_H}
variable {d pc len : Nat} {ls : pm_L} {st : List Value} {ih : pm_I} {o : pm_H × (Option Value ⊕ Unit)}
theorem pm_cat8_tl {v : Value} {r : List Value} (h : pm_cat8 (v :: r) = true) : pm_cat8 r = true := by
  have h1 := pm_cat8_sum h
  rw [List.map_cons, List.sum_cons] at h1
  have e : ∀ r : List Value, (List.rec 0 (fun v _ ih => v.category + ih) r : Nat) = (r.map fun v => v.category).sum := by
    intro r
    induction r with
    | nil => rfl
    | cons a r ih => rw [List.map_cons, List.sum_cons, ← ih]
  unfold pm_cat8
  rw [e]
  exact Nat.ble_eq_true_of_le (by omega)
theorem pm_jPrim {how ix f a b : Nat} (F : pm_Fr p s mid args meth c D cA A ad X m E y) (hA : pm_At s D cA A ad m hb sb x h H locs cells slots) (hg : pm_get (pm_lnk E.2.2.1) ix = some (12, f, a, b)) (hhow : how = cond (Nat.beq f 0) 3 2)
    (hd1 : (how = 2 → decode (pm_byt y.2.1) pc = .ok (.invokestatic ix, 3)) ∧ (how = 3 → decode (pm_byt y.2.1) pc = .ok (.invokespecial ix, 3))) (hm : m ≠ 309 ∨ f = 0)
    (hR : d + 10 ≤ R.frames ∧ 100 * d + 200 ≤ R.locals) (hroom : ∀ (h1 : pm_H) (q : Nat) (ls : pm_L) (st : List Value), ih d h1 m q ls st = some o → h1.length + x ≤ R.cells + hb ∧ pm_slt h1 + 6 * x ≤ R.slots + sb)
    (hfill : ∀ z k v r q, f = 6 → st = .int z :: .ref (16 + k) :: r → h[k]? = some (.inl (0, v)) → v.length ≤ 60000 → pm_cat8 r = true → ih d (h.set k (.inl (0, List.replicate v.length (.int z)))) m q ls r = some o → q = pc + 3 → pm_J p l e R s mid args below meth c H locs cells slots Q ad E.2.1 pc ls st)
    (hK : ∀ h1 H1 locs1 cells1 slots1 q ls st, pm_At s D cA A ad m hb sb x h1 H1 locs1 cells1 slots1 → ih d h1 m q ls st = some o → pm_J p l e R s mid args below meth c H1 locs1 cells1 slots1 Q ad E.2.1 q ls st)
    (hr : pm_prim X f (fun h' st' => cond (pm_cat8 st') (pm_fn (pc + 3) fun q => ih d h' m q ls st') none) h st = some o) : pm_J p l e R s mid args below meth c H locs cells slots Q ad E.2.1 pc ls st := by
  obtain ⟨i, hi⟩ := pm_link hg
  have hi : (Nat.ble f 6 && decide (tables_1[i]? = some (.methodLink (pm_nm E.2.2.1) ix (pm_prn f)))) = true := hi
  rw [Bool.and_eq_true, decide_eq_true_eq] at hi
  obtain ⟨hf6, hi⟩ := hi
  obtain ⟨hx, hbc, hml, hown, hw, hCx, hnm, he, hyy, hAs⟩ := id F
  have hlk : (Cond.methodLink (pm_nm E.2.2.1) ix (pm_prn f)).before args s = true := hw _ (pm_W0_at i hi rfl)
  have hini : (Cond.initialized "java/lang/Math").before args s = true := hw _ (pm_W0_of (by decide +kernel) rfl)
  have rooms : ∀ {h1 : pm_H} {q : Nat} {ls : pm_L} {st : List Value}, ih d h1 m q ls st = some o → h1.length = h.length → pm_slt h1 = pm_slt h → cells ≤ R.cells ∧ slots ≤ R.slots := by
    intro h1 q ls st hz e1 e2
    obtain ⟨r1, r2⟩ := hroom _ _ _ _ hz
    have a4 := hA.2.2.2.1
    have a5 := hA.2.2.2.2
    exact ⟨by omega, by omega⟩
  have hK0 : ∀ q ls st, ih d h m q ls st = some o → pm_J p l e R s mid args below meth c H locs cells slots Q ad E.2.1 q ls st := fun q ls st => hK h H locs cells slots q ls st hA
  intro LS hl
  have hls : c.maxLocals = LS.size := hml.trans hl.1.symm
  have hf : f = 0 ∨ f = 1 ∨ f = 2 ∨ f = 3 ∨ f = 4 ∨ f = 5 ∨ f = 6 := by
    have := Nat.le_of_ble_eq_true hf6
    omega
  rcases hf with rfl | rfl | rfl | rfl | rfl | rfl | rfl
  · replace hr : pm_p0 X (fun h' st' => cond (pm_cat8 st') (pm_fn (pc + 3) fun q => ih d h' m q ls st') none) h st = some o := hr
    unfold pm_p0 at hr
    split at hr
    · rename_i z r
      replace hr := pm_cond_true hr
      obtain ⟨hb1, hr⟩ := hr
      rw [pm_fn_eq] at hr
      have h8 := lv_room (m := mid) (pc := pc) (ls := LS) (rest := (Value.ref z :: r).map (pm_rv ad)) (pm_cat8_rv (ad := ad) hb1)
      refine W.objInit hx hbc hown hlk (hw _ (pm_W0_of (by decide +kernel) rfl)) (hw _ (pm_W0_of (by decide +kernel) rfl)) rfl hls.symm rfl (hd1.2 hhow) (by omega) (by omega) (hK0 _ _ _ hr LS hl)
    · cases hr
  · replace hr : pm_p1 X (fun h' st' => cond (pm_cat8 st') (pm_fn (pc + 3) fun q => ih d h' m q ls st') none) h st = some o := hr
    unfold pm_p1 at hr
    split at hr
    · replace hr := pm_cond_true hr
      obtain ⟨hb1, hr⟩ := hr
      rw [pm_fn_eq] at hr
      have h8 := pm_cat8_rv (ad := ad) (pm_cat8_tl hb1)
      obtain ⟨c1, c2⟩ := rooms hr rfl rfl
      exact va_mmax hx hbc hls hown hlk (hw _ (pm_W0_of (by decide +kernel) rfl)) hini (hw _ (pm_W0_of (by decide +kernel) rfl)) (by omega) (by omega) c1 c2 (hd1.1 hhow) (hK0 _ _ _ hr LS hl)
    · cases hr
  · replace hr : pm_p2 X (fun h' st' => cond (pm_cat8 st') (pm_fn (pc + 3) fun q => ih d h' m q ls st') none) h st = some o := hr
    unfold pm_p2 at hr
    split at hr
    · replace hr := pm_cond_true hr
      obtain ⟨hb1, hr⟩ := hr
      rw [pm_fn_eq] at hr
      have h8 := pm_cat8_rv (ad := ad) (pm_cat8_tl hb1)
      obtain ⟨c1, c2⟩ := rooms hr rfl rfl
      exact va_mmin hx hbc hls hown hlk (hw _ (pm_W0_of (by decide +kernel) rfl)) hini (hw _ (pm_W0_of (by decide +kernel) rfl)) (by omega) (by omega) c1 c2 (hd1.1 hhow) (hK0 _ _ _ hr LS hl)
    · cases hr
  · replace hr : pm_p3 X (fun h' st' => cond (pm_cat8 st') (pm_fn (pc + 3) fun q => ih d h' m q ls st') none) h st = some o := hr
    unfold pm_p3 at hr
    split at hr
    · replace hr := pm_cond_true hr
      obtain ⟨hb1, hr⟩ := hr
      rw [pm_fn_eq] at hr
      have h8 := pm_cat8_rv (ad := ad) (pm_cat8_tl hb1)
      obtain ⟨c1, c2⟩ := rooms hr rfl rfl
      exact va_mabs hx hbc hls hown hlk (hw _ (pm_W0_of (by decide +kernel) rfl)) hini (hw _ (pm_W0_of (by decide +kernel) rfl)) (by omega) (by omega) c1 c2 (hd1.1 hhow) (hK0 _ _ _ hr LS hl)
    · cases hr
  · replace hr : pm_p4 X (fun h' st' => cond (pm_cat8 st') (pm_fn (pc + 3) fun q => ih d h' m q ls st') none) h st = some o := hr
    unfold pm_p4 at hr
    split at hr
    · replace hr := pm_cond_true hr
      obtain ⟨hb1, hr⟩ := hr
      rw [pm_fn_eq] at hr
      have h8 := pm_cat8_rv (ad := ad) (pm_cat8_tl hb1)
      obtain ⟨c1, c2⟩ := rooms hr rfl rfl
      exact va_mabs_long hx hbc hls hown hlk (hw _ (pm_W0_of (by decide +kernel) rfl)) hini (hw _ (pm_W0_of (by decide +kernel) rfl)) (by omega) (by omega) c1 c2 (hd1.1 hhow) (hK0 _ _ _ hr LS hl)
    · cases hr
  · have hm := hm.resolve_right (by decide)
    replace hr : pm_p5 X (fun h' st' => cond (pm_cat8 st') (pm_fn (pc + 3) fun q => ih d h' m q ls st') none) h st = some o := hr
    unfold pm_p5 at hr
    split at hr
    · rename_i n dp d0 sp a0 r
      split at hr
      · rename_i t v t' v' hrow hc
        replace hr := pm_cond_true hr
        obtain ⟨hb1, hr⟩ := hr
        replace hr := pm_cond_true hr
        obtain ⟨hb2, hr⟩ := hr
        rw [pm_fn_eq] at hr
        simp only [Bool.and_eq_true, Bool.not_eq_true', decide_eq_false_iff_not] at hb1
        obtain ⟨t1, t2, t3, t4, t5, t6, t7, t8⟩ := hb1
        have t1 := Nat.eq_of_beq_eq_true t1
        have t2 := Nat.eq_of_beq_eq_true t2
        have t3 := Nat.le_of_ble_eq_true t3
        rw [pm_len_eq] at t7 t8
        have t7 := Nat.le_of_ble_eq_true t7
        have t8 := Nat.le_of_ble_eq_true t8
        subst t1; subst t2
        obtain ⟨k1, rfl, e2, hk1⟩ := pm_cell_some hc
        rw [e2, pm_set_eq] at hr
        have h8 := pm_cat8_rv (ad := ad) hb2
        rcases pm_row_own hrow with ⟨q1, -⟩ | ⟨k0, rfl, hk0⟩
        · omega
        · have ha0 := pm_ws_at (ad := ad) (cA := cA) hk0
          have ha1 := pm_ws_at (ad := ad) (cA := cA) hk1
          rw [show pm_re ad cA (.inl (0, v)) = .inl (cA 0, v.length, .inl (fun j => pm_iv (v.getD j .null))) from rfl] at ha0
          rw [show pm_re ad cA (.inl (0, v')) = .inl (cA 0, v'.length, .inl (fun j => pm_iv (v'.getD j .null))) from rfl] at ha1
          refine va_copyi (ty := .int) hx hbc hls hown hlk (hw _ (pm_W0_of (by decide +kernel) rfl)) (hw _ (pm_W0_of (by decide +kernel) rfl)) (hw _ (pm_W0_of (by decide +kernel) rfl)) hCx.1 hA.1.1 hA.1.2.1 (pm_S_self hA.2.1) k0 k1 0 0 ha0 ha1 rfl rfl rfl t6 t5 t4 t7 t8 (fun _ _ => rfl) (by omega) (by show _ + (7 + 11) ≤ _; omega) (hd1.1 hhow) fun H1 locs1 hP1 hD1 hS1 => ?_
          have e3 : (.inl (cA 0, v'.length, .inl (va_cpy (fun j => pm_iv (v.getD j .null)) (fun j => pm_iv (v'.getD j .null)) sp.toNatClampNeg dp.toNatClampNeg n.toNatClampNeg)) : va_E) = pm_re ad cA (.inl (0, pm_cpy v v' sp.toNatClampNeg dp.toNatClampNeg n.toNatClampNeg)) := by
            show _ = Sum.inl (cA 0, (pm_cpy v v' sp.toNatClampNeg dp.toNatClampNeg n.toNatClampNeg).length, pm_ct ad 0 (pm_cpy v v' sp.toNatClampNeg dp.toNatClampNeg n.toNatClampNeg))
            rw [pm_ctI ad _ (by decide) (by decide), pm_cpy_len _ _ _ _ _ t7 t8, pm_cpyF pm_iv _ _ _ _ _ t7 t8]
          rw [e3] at hP1 hD1
          refine pm_up fun hup => ?_
          exact hK _ H1 locs1 _ _ _ _ _ (hA.stored (c' := .inl (0, pm_cpy v v' sp.toNatClampNeg dp.toNatClampNeg n.toNatClampNeg)) hm hk1 (pm_cpy_len _ _ _ _ _ t7 t8) hP1 hD1 hS1 hup) hr LS hl
      · cases hr
    · cases hr
  · replace hr : pm_p6 X (fun h' st' => cond (pm_cat8 st') (pm_fn (pc + 3) fun q => ih d h' m q ls st') none) h st = some o := hr
    unfold pm_p6 at hr
    split at hr
    · rename_i z d0 r
      split at hr
      · rename_i t v hc
        replace hr := pm_cond_true hr
        obtain ⟨hb1, hr⟩ := hr
        replace hr := pm_cond_true hr
        obtain ⟨hb2, hr⟩ := hr
        rw [Bool.and_eq_true, pm_len_eq] at hb1
        obtain ⟨hb1, hb3⟩ := hb1
        have hb1 := Nat.eq_of_beq_eq_true hb1
        subst hb1
        obtain ⟨k1, rfl, e2, hk1⟩ := pm_cell_some hc
        rw [pm_fn_eq, e2, pm_set_eq, pm_rep_eq, pm_len_eq] at hr
        exact hfill z k1 v r _ rfl rfl hk1 (Nat.le_of_ble_eq_true hb3) hb2 hr rfl LS hl
      · cases hr
    · cases hr
end PmP
end
section
/-! a run makes cells and slots, it takes none away (printed by wip/tool/mono.py) -/
/-- a simple handler goes on, or not -/
def pm_thru (f : pm_S) : Prop := ∀ (K : Nat → pm_L → List Value → pm_R) (pc len : Nat) (ls : pm_L) (st : List Value) (o : pm_H × (Option Value ⊕ Unit)), f K pc len ls st = some o → ∃ q ls' st', K q ls' st' = some o
theorem pm_tC (v : Value) : pm_thru (pm_sC v) := by
  intro K pc len ls st o h
  unfold pm_sC at h
  rw [pm_fn_eq] at h
  exact ⟨_, _, _, h⟩
theorem pm_tIld (k : Nat) : pm_thru (pm_sIld k) := by
  intro K pc len ls st o h
  unfold pm_sIld at h
  split at h
  · rw [pm_fn_eq] at h
    exact ⟨_, _, _, h⟩
  · cases h
theorem pm_tLld (k : Nat) : pm_thru (pm_sLld k) := by
  intro K pc len ls st o h
  unfold pm_sLld at h
  split at h
  · rw [pm_fn_eq] at h
    exact ⟨_, _, _, h⟩
  · cases h
theorem pm_tAld (k : Nat) : pm_thru (pm_sAld k) := by
  intro K pc len ls st o h
  unfold pm_sAld at h
  split at h
  · rw [pm_fn_eq] at h
    exact ⟨_, _, _, h⟩
  · cases h
theorem pm_tIst (k : Nat) : pm_thru (pm_sIst k) := by
  intro K pc len ls st o h
  unfold pm_sIst at h
  split at h
  · replace h := pm_cond_true h
    obtain ⟨-, h⟩ := h
    rw [pm_fi_eq, pm_fn_eq] at h
    exact ⟨_, _, _, h⟩
  · cases h
theorem pm_tLst (k : Nat) : pm_thru (pm_sLst k) := by
  intro K pc len ls st o h
  unfold pm_sLst at h
  split at h
  · replace h := pm_cond_true h
    obtain ⟨-, h⟩ := h
    rw [pm_fl_eq, pm_fn_eq] at h
    exact ⟨_, _, _, h⟩
  · cases h
theorem pm_tAst (k : Nat) : pm_thru (pm_sAst k) := by
  intro K pc len ls st o h
  unfold pm_sAst at h
  split at h
  · replace h := pm_cond_true h
    obtain ⟨-, h⟩ := h
    rw [pm_fn_eq] at h
    exact ⟨_, _, _, h⟩
  · cases h
theorem pm_tInc (k : Nat) (n : Int) : pm_thru (pm_sInc k n) := by
  intro K pc len ls st o h
  unfold pm_sInc at h
  split at h
  · replace h := pm_cond_true h
    obtain ⟨-, h⟩ := h
    rw [pm_fi_eq, pm_fn_eq] at h
    exact ⟨_, _, _, h⟩
  · cases h
theorem pm_tII (f : Int32 → Int32 → Int32) : pm_thru (pm_sII f) := by
  intro K pc len ls st o h
  unfold pm_sII at h
  split at h
  · rw [pm_fn_eq] at h
    exact ⟨_, _, _, h⟩
  · cases h
theorem pm_tI (f : Int32 → Int32) : pm_thru (pm_sI f) := by
  intro K pc len ls st o h
  unfold pm_sI at h
  split at h
  · rw [pm_fn_eq] at h
    exact ⟨_, _, _, h⟩
  · cases h
theorem pm_tLL (f : Int64 → Int64 → Int64) : pm_thru (pm_sLL f) := by
  intro K pc len ls st o h
  unfold pm_sLL at h
  split at h
  · rw [pm_fn_eq] at h
    exact ⟨_, _, _, h⟩
  · cases h
theorem pm_tLI (f : Int64 → Int32 → Int64) : pm_thru (pm_sLI f) := by
  intro K pc len ls st o h
  unfold pm_sLI at h
  split at h
  · rw [pm_fn_eq] at h
    exact ⟨_, _, _, h⟩
  · cases h
theorem pm_tL (f : Int64 → Int64) : pm_thru (pm_sL f) := by
  intro K pc len ls st o h
  unfold pm_sL at h
  split at h
  · rw [pm_fn_eq] at h
    exact ⟨_, _, _, h⟩
  · cases h
theorem pm_tIL (f : Int32 → Int64) : pm_thru (pm_sIL f) := by
  intro K pc len ls st o h
  unfold pm_sIL at h
  split at h
  · rw [pm_fn_eq] at h
    exact ⟨_, _, _, h⟩
  · cases h
theorem pm_tLi (f : Int64 → Int32) : pm_thru (pm_sLi f) := by
  intro K pc len ls st o h
  unfold pm_sLi at h
  split at h
  · rw [pm_fn_eq] at h
    exact ⟨_, _, _, h⟩
  · cases h
theorem pm_tCmp  : pm_thru (pm_sCmp) := by
  intro K pc len ls st o h
  unfold pm_sCmp at h
  split at h
  · rw [pm_fn_eq] at h
    exact ⟨_, _, _, h⟩
  · cases h
theorem pm_tIIz (f : Int32 → Int32 → Int32) : pm_thru (pm_sIIz f) := by
  intro K pc len ls st o h
  unfold pm_sIIz at h
  split at h
  · replace h := pm_cond_false h
    obtain ⟨-, h⟩ := h
    rw [pm_fn_eq] at h
    exact ⟨_, _, _, h⟩
  · cases h
theorem pm_tLLz (f : Int64 → Int64 → Int64) : pm_thru (pm_sLLz f) := by
  intro K pc len ls st o h
  unfold pm_sLLz at h
  split at h
  · replace h := pm_cond_false h
    obtain ⟨-, h⟩ := h
    rw [pm_fn_eq] at h
    exact ⟨_, _, _, h⟩
  · cases h
theorem pm_tDup  : pm_thru (pm_sDup) := by
  intro K pc len ls st o h
  unfold pm_sDup at h
  split at h
  · replace h := pm_cond_true h
    obtain ⟨-, h⟩ := h
    rw [pm_fn_eq] at h
    exact ⟨_, _, _, h⟩
  · cases h
theorem pm_tPop  : pm_thru (pm_sPop) := by
  intro K pc len ls st o h
  unfold pm_sPop at h
  split at h
  · replace h := pm_cond_true h
    obtain ⟨-, h⟩ := h
    rw [pm_fn_eq] at h
    exact ⟨_, _, _, h⟩
  · cases h
theorem pm_tIf (c : ClassFile.Cond) (off : Int) : pm_thru (pm_sIf c off) := by
  intro K pc len ls st o h
  unfold pm_sIf at h
  split at h
  · rename_i x r
    obtain ⟨t, -, h⟩ := pm_to_some h
    generalize pm_cnd c x 0 = b at h
    cases b with
    | true => exact ⟨_, _, _, h⟩
    | false =>
      rw [cond_false, pm_fn_eq] at h
      exact ⟨_, _, _, h⟩
  · cases h
theorem pm_tIf2 (c : ClassFile.Cond) (off : Int) : pm_thru (pm_sIf2 c off) := by
  intro K pc len ls st o h
  unfold pm_sIf2 at h
  split at h
  · rename_i y x r
    obtain ⟨t, -, h⟩ := pm_to_some h
    generalize pm_cnd c x y = b at h
    cases b with
    | true => exact ⟨_, _, _, h⟩
    | false =>
      rw [cond_false, pm_fn_eq] at h
      exact ⟨_, _, _, h⟩
  · cases h
theorem pm_tGo (off : Int) : pm_thru (pm_sGo off) := by
  intro K pc len ls st o h
  unfold pm_sGo at h
  obtain ⟨t, -, h⟩ := pm_to_some h
  exact ⟨_, _, _, h⟩
theorem pm_tTsw (d lo hi : Int) (offs : Array Int) : pm_thru (pm_sTsw d lo hi offs) := by
  intro K pc len ls st o h
  unfold pm_sTsw at h
  split at h
  · unfold pm_tsw at h
    split at h
    · obtain ⟨t, -, h⟩ := pm_to_some h
      exact ⟨_, _, _, h⟩
    · split at h
      · obtain ⟨t, -, h⟩ := pm_to_some h
        exact ⟨_, _, _, h⟩
      · cases h
  · cases h
theorem pm_tLsw (d : Int) (ps : Array (Int × Int)) : pm_thru (pm_sLsw d ps) := by
  intro K pc len ls st o h
  unfold pm_sLsw at h
  split at h
  · replace h := pm_cond_true h
    obtain ⟨-, h⟩ := h
    obtain ⟨t, -, h⟩ := pm_to_some h
    exact ⟨_, _, _, h⟩
  · cases h
/-- what comes behind has grown -/
def pm_up0 (ih : pm_I) : Prop := ∀ d h m pc ls st o, ih d h m pc ls st = some o → pm_le h o.1
def pm_thg (g : pm_G) : Prop := ∀ (ih : pm_I) (d : Nat) (h : pm_H) (m own pc len : Nat) (ls : pm_L) (st : List Value) (o : pm_H × (Option Value ⊕ Unit)), pm_up0 ih → g ih d h m own pc len ls st = some o → pm_le h o.1
theorem pm_tLift {f : pm_S} (hf : pm_thru f) : pm_thg (pm_lift f) := by
  intro ih d h m own pc len ls st o hu hr
  obtain ⟨q, ls', st', hr⟩ := hf (ih d h m) pc len ls st o hr
  exact hu _ _ _ _ _ _ _ hr
theorem pm_le_set {h : pm_H} {k : Nat} {c c' : pm_C} (hk : h[k]? = some c) (hz : pm_sz c' = pm_sz c) : pm_le h (h.set k c') := ⟨by simp, by rw [pm_slt_set hk hz]; exact Nat.le_refl _⟩
theorem pm_le_push (h : pm_H) (c : pm_C) : pm_le h (h ++ [c]) := ⟨by simp, by rw [pm_slt_push]; omega⟩
theorem pm_tgLdc (ix : Nat) : pm_thg (pm_gLdc ix) := by
  intro ih d h m own pc len ls st o hu hr
  unfold pm_gLdc at hr
  split at hr
  · rw [pm_fn_eq] at hr
    exact hu _ _ _ _ _ _ _ hr
  · rw [pm_fn_eq] at hr
    exact hu _ _ _ _ _ _ _ hr
  · cases hr
theorem pm_tgLdw (ix : Nat) : pm_thg (pm_gLdw ix) := by
  intro ih d h m own pc len ls st o hu hr
  unfold pm_gLdw at hr
  split at hr
  · rw [pm_fn_eq] at hr
    exact hu _ _ _ _ _ _ _ hr
  · cases hr
theorem pm_tgLd2 (ix : Nat) : pm_thg (pm_gLd2 ix) := by
  intro ih d h m own pc len ls st o hu hr
  unfold pm_gLd2 at hr
  split at hr
  · rw [pm_fn_eq] at hr
    exact hu _ _ _ _ _ _ _ hr
  · cases hr
theorem pm_tgSta (ix : Nat) : pm_thg (pm_gSta ix) := by
  intro ih d h m own pc len ls st o hu hr
  unfold pm_gSta at hr
  split at hr
  · rw [pm_fn_eq] at hr
    exact hu _ _ _ _ _ _ _ hr
  · cases hr
theorem pm_tgGet (ix : Nat) : pm_thg (pm_gGet ix) := by
  intro ih d h m own pc len ls st o hu hr
  unfold pm_gGet at hr
  split at hr
  · split at hr
    · replace hr := pm_cond_true hr
      obtain ⟨-, hr⟩ := hr
      split at hr
      · rw [pm_fn_eq] at hr
        exact hu _ _ _ _ _ _ _ hr
      · cases hr
    · cases hr
  · cases hr
theorem pm_tgPut (ix : Nat) : pm_thg (pm_gPut ix) := by
  intro ih d h m own pc len ls st o hu hr
  unfold pm_gPut at hr
  split at hr
  · split at hr
    · rename_i hg hc
      replace hr := pm_cond_true hr
      obtain ⟨-, hr⟩ := hr
      replace hr := pm_cond_true hr
      obtain ⟨-, hr⟩ := hr
      replace hr := pm_cond_true hr
      obtain ⟨-, hr⟩ := hr
      obtain ⟨k0, rfl, e2, hk0⟩ := pm_cell_some hc
      rw [pm_fv_eq, pm_fn_eq, e2, pm_set_eq, pm_set_eq] at hr
      exact (pm_le_set hk0 (by simp [pm_sz])).tr (hu _ _ _ _ _ _ _ hr)
    · cases hr
  · cases hr
theorem pm_tgNew (X : List (Nat × List Value)) (ix : Nat) : pm_thg (pm_gNew X ix) := by
  intro ih d h m own pc len ls st o hu hr
  unfold pm_gNew at hr
  split at hr
  · split at hr
    · replace hr := pm_cond_true hr
      obtain ⟨-, hr⟩ := hr
      rw [pm_fn_eq, pm_fn_eq] at hr
      exact (pm_le_push _ _).tr (hu _ _ _ _ _ _ _ hr)
    · cases hr
  · replace hr := pm_cond_true hr
    obtain ⟨-, hr⟩ := hr
    cases hr
    exact pm_le.rf _
  · cases hr
theorem pm_tgNwa (t : ArrayType) : pm_thg (pm_gNwa t) := by
  intro ih d h m own pc len ls st o hu hr
  unfold pm_gNwa at hr
  split at hr
  · replace hr := pm_cond_false hr
    obtain ⟨-, hr⟩ := hr
    replace hr := pm_cond_true hr
    obtain ⟨-, hr⟩ := hr
    replace hr := pm_cond_true hr
    obtain ⟨-, hr⟩ := hr
    rw [pm_fn_eq, pm_fn_eq] at hr
    exact (pm_le_push _ _).tr (hu _ _ _ _ _ _ _ hr)
  · cases hr
theorem pm_tgAnw (ix : Nat) : pm_thg (pm_gAnw ix) := by
  intro ih d h m own pc len ls st o hu hr
  unfold pm_gAnw at hr
  split at hr
  · replace hr := pm_cond_false hr
    obtain ⟨-, hr⟩ := hr
    replace hr := pm_cond_true hr
    obtain ⟨-, hr⟩ := hr
    rw [pm_fn_eq, pm_fn_eq] at hr
    exact (pm_le_push _ _).tr (hu _ _ _ _ _ _ _ hr)
  · cases hr
theorem pm_tgLen (X : List (Nat × List Value)) : pm_thg (pm_gLen X) := by
  intro ih d h m own pc len ls st o hu hr
  unfold pm_gLen at hr
  split at hr
  · split at hr
    · replace hr := pm_cond_true hr
      obtain ⟨-, hr⟩ := hr
      rw [pm_fn_eq, pm_fn_eq] at hr
      exact hu _ _ _ _ _ _ _ hr
    · cases hr
  · cases hr
theorem pm_tgAld (X : List (Nat × List Value)) (t t1 : Nat) : pm_thg (pm_gAld X t t1) := by
  intro ih d h m own pc len ls st o hu hr
  unfold pm_gAld at hr
  split at hr
  · split at hr
    · replace hr := pm_cond_true hr
      obtain ⟨-, hr⟩ := hr
      replace hr := pm_cond_false hr
      obtain ⟨-, hr⟩ := hr
      split at hr
      · rw [pm_fn_eq] at hr
        exact hu _ _ _ _ _ _ _ hr
      · cases hr
    · cases hr
  · cases hr
theorem pm_tgLald (X : List (Nat × List Value)) : pm_thg (pm_gLald X) := by
  intro ih d h m own pc len ls st o hu hr
  unfold pm_gLald at hr
  split at hr
  · split at hr
    · replace hr := pm_cond_true hr
      obtain ⟨-, hr⟩ := hr
      replace hr := pm_cond_false hr
      obtain ⟨-, hr⟩ := hr
      split at hr
      · rw [pm_fn_eq] at hr
        exact hu _ _ _ _ _ _ _ hr
      · cases hr
    · cases hr
  · cases hr
theorem pm_tgAald  : pm_thg (pm_gAald) := by
  intro ih d h m own pc len ls st o hu hr
  unfold pm_gAald at hr
  split at hr
  · split at hr
    · replace hr := pm_cond_true hr
      obtain ⟨-, hr⟩ := hr
      replace hr := pm_cond_false hr
      obtain ⟨-, hr⟩ := hr
      split at hr
      · rw [pm_fn_eq] at hr
        exact hu _ _ _ _ _ _ _ hr
      · cases hr
    · cases hr
  · cases hr
theorem pm_tgIst (t : Nat) (f : Int32 → Int32) : pm_thg (pm_gIst t f) := by
  intro ih d h m own pc len ls st o hu hr
  unfold pm_gIst at hr
  split at hr
  · split at hr
    · rename_i hc
      replace hr := pm_cond_true hr
      obtain ⟨-, hr⟩ := hr
      replace hr := pm_cond_true hr
      obtain ⟨-, hr⟩ := hr
      obtain ⟨k0, rfl, e2, hk0⟩ := pm_cell_some hc
      rw [pm_fi_eq, pm_fn_eq, e2, pm_set_eq, pm_set_eq] at hr
      exact (pm_le_set hk0 (by simp [pm_sz])).tr (hu _ _ _ _ _ _ _ hr)
    · cases hr
  · cases hr
theorem pm_tgLst  : pm_thg (pm_gLst) := by
  intro ih d h m own pc len ls st o hu hr
  unfold pm_gLst at hr
  split at hr
  · split at hr
    · rename_i hc
      replace hr := pm_cond_true hr
      obtain ⟨-, hr⟩ := hr
      replace hr := pm_cond_true hr
      obtain ⟨-, hr⟩ := hr
      obtain ⟨k0, rfl, e2, hk0⟩ := pm_cell_some hc
      rw [pm_fl_eq, pm_fn_eq, e2, pm_set_eq, pm_set_eq] at hr
      exact (pm_le_set hk0 (by simp [pm_sz])).tr (hu _ _ _ _ _ _ _ hr)
    · cases hr
  · cases hr
theorem pm_tgAst  : pm_thg (pm_gAst) := by
  intro ih d h m own pc len ls st o hu hr
  unfold pm_gAst at hr
  split at hr
  · split at hr
    · rename_i hc hcz
      replace hr := pm_cond_true hr
      obtain ⟨-, hr⟩ := hr
      replace hr := pm_cond_true hr
      obtain ⟨-, hr⟩ := hr
      obtain ⟨k0, rfl, e2, hk0⟩ := pm_cell_some hc
      rw [pm_fn_eq, e2, pm_set_eq, pm_set_eq] at hr
      exact (pm_le_set hk0 (by simp [pm_sz])).tr (hu _ _ _ _ _ _ _ hr)
    · cases hr
  · cases hr
theorem pm_tgRet (lo hi : Nat) : pm_thg (pm_gRet lo hi) := by
  intro ih d h m own pc len ls st o hu hr
  unfold pm_gRet at hr
  split at hr
  · split at hr
    · replace hr := pm_cond_true hr
      obtain ⟨-, hr⟩ := hr
      replace hr := pm_cond_true hr
      obtain ⟨-, hr⟩ := hr
      replace hr := pm_cond_true hr
      obtain ⟨-, hr⟩ := hr
      cases hr
      exact pm_le.rf _
    · cases hr
  · cases hr
theorem pm_tgRtv  : pm_thg (pm_gRtv) := by
  intro ih d h m own pc len ls st o hu hr
  unfold pm_gRtv at hr
  split at hr
  · split at hr
    · replace hr := pm_cond_true hr
      obtain ⟨-, hr⟩ := hr
      cases hr
      exact pm_le.rf _
    · cases hr
  · cases hr
theorem pm_tCall {ih : pm_I} {d : Nat} {h : pm_H} {m pc : Nat} {ls : pm_L} {m' : Nat} {As rest : List Value} {hnd : Bool} {o : pm_H × (Option Value ⊕ Unit)} (hu : pm_up0 ih) (hr : pm_call ih d h m pc ls m' As rest hnd = some o) : pm_le h o.1 := by
  unfold pm_call at hr
  split at hr
  · cases hr
  · split at hr
    · cases hr
    · replace hr := pm_cond_true hr
      obtain ⟨-, hr⟩ := hr
      split at hr
      · rename_i h1 v hrun
        rw [pm_fn_eq] at hr
        exact (hu _ _ _ _ _ _ _ hrun).tr (hu _ _ _ _ _ _ _ hr)
      · rename_i h1 v hrun
        replace hr := pm_cond_true hr
        obtain ⟨-, hr⟩ := hr
        cases hr
        exact (hu _ _ _ _ _ _ _ hrun : pm_le h (h1, Sum.inr v).1)
      · cases hr
theorem pm_tPrim {X : List (Nat × List Value)} {f : Nat} {K : pm_H → List Value → pm_R} {h : pm_H} {st : List Value} {o : pm_H × (Option Value ⊕ Unit)} (hK : ∀ h1 st1, K h1 st1 = some o → pm_le h1 o.1) (hr : pm_prim X f K h st = some o) : pm_le h o.1 := by
  unfold pm_prim at hr
  split at hr
  · unfold pm_p0 at hr
    split at hr
    · exact hK _ _ hr
    · cases hr
  · unfold pm_p1 at hr
    split at hr
    · exact hK _ _ hr
    · cases hr
  · unfold pm_p2 at hr
    split at hr
    · exact hK _ _ hr
    · cases hr
  · unfold pm_p3 at hr
    split at hr
    · exact hK _ _ hr
    · cases hr
  · unfold pm_p4 at hr
    split at hr
    · exact hK _ _ hr
    · cases hr
  · unfold pm_p5 at hr
    split at hr
    · split at hr
      · rename_i hrow hc
        replace hr := pm_cond_true hr
        obtain ⟨hb1, hr⟩ := hr
        simp only [Bool.and_eq_true] at hb1
        obtain ⟨t1, t2, t3, t4, t5, t6, t7, t8⟩ := hb1
        rw [pm_len_eq] at t7 t8
        obtain ⟨k0, rfl, e2, hk0⟩ := pm_cell_some hc
        rw [e2, pm_set_eq] at hr
        have hz := pm_cpy_len _ _ _ _ _ (Nat.le_of_ble_eq_true t7) (Nat.le_of_ble_eq_true t8)
        refine pm_le.tr ?_ (hK _ _ hr)
        exact pm_le_set hk0 hz
      · cases hr
    · cases hr
  · unfold pm_p6 at hr
    split at hr
    · split at hr
      · rename_i hc
        replace hr := pm_cond_true hr
        obtain ⟨-, hr⟩ := hr
        obtain ⟨k0, rfl, e2, hk0⟩ := pm_cell_some hc
        rw [e2, pm_set_eq, pm_rep_eq, pm_len_eq] at hr
        exact (pm_le_set hk0 (by simp [pm_sz])).tr (hK _ _ hr)
      · cases hr
    · cases hr
  · cases hr
theorem pm_tgInv (X : List (Nat × List Value)) (how ix : Nat) : pm_thg (pm_gInv X how ix) := by
  intro ih d h m own pc len ls st o hu hr
  unfold pm_gInv at hr
  split at hr
  · rename_i kind m' na ci hg
    cases hk : Nat.beq kind 12 with
    | true =>
      rw [hk, cond_true] at hr
      replace hr := pm_cond_true hr
      obtain ⟨-, hr⟩ := hr
      refine pm_tPrim (fun h1 st1 hz => ?_) hr
      replace hz := pm_cond_true hz
      obtain ⟨-, hz⟩ := hz
      rw [pm_fn_eq] at hz
      exact hu _ _ _ _ _ _ _ hz
    | false =>
      rw [hk, cond_false] at hr
      split at hr
      · replace hr := pm_cond_true hr
        obtain ⟨-, hr⟩ := hr
        cases hk2 : Nat.beq kind how with
        | true =>
          rw [hk2, cond_true] at hr
          unfold pm_gC at hr
          split at hr
          · split at hr
            · split at hr
              · replace hr := pm_cond_true hr
                obtain ⟨-, hr⟩ := hr
                exact pm_tCall hu hr
              · cases hr
            · cases hr
          · exact pm_tCall hu hr
          · split at hr
            · exact pm_tCall hu hr
            · cases hr
          · cases hr
        | false =>
          rw [hk2, cond_false] at hr
          replace hr := pm_cond_true hr
          obtain ⟨-, hr⟩ := hr
          replace hr := pm_cond_true hr
          obtain ⟨-, hr⟩ := hr
          exact pm_tCall hu hr
      · cases hr
  · cases hr
theorem pm_tDsp (X : List (Nat × List Value)) (i : Instr) : pm_thg (pm_dsp X i) := by
  cases i with
  | iconst n => exact pm_tLift (pm_tC _)
  | bipush n => exact pm_tLift (pm_tC _)
  | sipush n => exact pm_tLift (pm_tC _)
  | lconst n => exact pm_tLift (pm_tC _)
  | aload k => exact pm_tLift (pm_tAld _)
  | aload_n k => exact pm_tLift (pm_tAld _)
  | iload k => exact pm_tLift (pm_tIld _)
  | iload_n k => exact pm_tLift (pm_tIld _)
  | lload k => exact pm_tLift (pm_tLld _)
  | lload_n k => exact pm_tLift (pm_tLld _)
  | astore k => exact pm_tLift (pm_tAst _)
  | astore_n k => exact pm_tLift (pm_tAst _)
  | istore k => exact pm_tLift (pm_tIst _)
  | istore_n k => exact pm_tLift (pm_tIst _)
  | lstore k => exact pm_tLift (pm_tLst _)
  | lstore_n k => exact pm_tLift (pm_tLst _)
  | iinc k n => exact pm_tLift (pm_tInc _ _)
  | iadd => exact pm_tLift (pm_tII _)
  | isub => exact pm_tLift (pm_tII _)
  | imul => exact pm_tLift (pm_tII _)
  | iand => exact pm_tLift (pm_tII _)
  | ior => exact pm_tLift (pm_tII _)
  | ishl => exact pm_tLift (pm_tII _)
  | ishr => exact pm_tLift (pm_tII _)
  | iushr => exact pm_tLift (pm_tII _)
  | idiv => exact pm_tLift (pm_tIIz _)
  | irem => exact pm_tLift (pm_tIIz _)
  | ineg => exact pm_tLift (pm_tI _)
  | i2b => exact pm_tLift (pm_tI _)
  | i2c => exact pm_tLift (pm_tI _)
  | ladd => exact pm_tLift (pm_tLL _)
  | lsub => exact pm_tLift (pm_tLL _)
  | lmul => exact pm_tLift (pm_tLL _)
  | land => exact pm_tLift (pm_tLL _)
  | lor => exact pm_tLift (pm_tLL _)
  | ldiv => exact pm_tLift (pm_tLLz _)
  | lrem => exact pm_tLift (pm_tLLz _)
  | lneg => exact pm_tLift (pm_tL _)
  | lshl => exact pm_tLift (pm_tLI _)
  | lshr => exact pm_tLift (pm_tLI _)
  | lushr => exact pm_tLift (pm_tLI _)
  | lcmp => exact pm_tLift pm_tCmp
  | i2l => exact pm_tLift (pm_tIL _)
  | l2i => exact pm_tLift (pm_tLi _)
  | dup => exact pm_tLift pm_tDup
  | pop => exact pm_tLift pm_tPop
  | ifCond c off => exact pm_tLift (pm_tIf _ _)
  | if_icmp c off => exact pm_tLift (pm_tIf2 _ _)
  | goto off => exact pm_tLift (pm_tGo _)
  | tableswitch a b c2 d => exact pm_tLift (pm_tTsw _ _ _ _)
  | lookupswitch a b => exact pm_tLift (pm_tLsw _ _)
  | ldc ix => exact pm_tgLdc _
  | ldc_w ix => exact pm_tgLdw _
  | ldc2_w ix => exact pm_tgLd2 _
  | getstatic ix => exact pm_tgSta _
  | getfield ix => exact pm_tgGet _
  | putfield ix => exact pm_tgPut _
  | new ix => exact pm_tgNew _ _
  | newarray t => exact pm_tgNwa _
  | anewarray ix => exact pm_tgAnw _
  | arraylength => exact pm_tgLen _
  | iaload => exact pm_tgAld _ _ _
  | baload => exact pm_tgAld _ _ _
  | caload => exact pm_tgAld _ _ _
  | laload => exact pm_tgLald _
  | aaload => exact pm_tgAald
  | iastore => exact pm_tgIst _ _
  | bastore => exact pm_tgIst _ _
  | castore => exact pm_tgIst _ _
  | lastore => exact pm_tgLst
  | aastore => exact pm_tgAst
  | invokestatic ix => exact pm_tgInv _ _ _
  | invokevirtual ix => exact pm_tgInv _ _ _
  | invokespecial ix => exact pm_tgInv _ _ _
  | ireturn => exact pm_tgRet _ _
  | lreturn => exact pm_tgRet _ _
  | areturn => exact pm_tgRet _ _
  | return_ => exact pm_tgRtv
  | _ => exact fun _ _ _ _ _ _ _ _ _ _ _ hr => nomatch (show (none : pm_R) = some _ from hr)
theorem pm_mono (X : List (Nat × List Value)) : ∀ n, pm_up0 (pm_x X n)
  | 0 => fun d h m pc ls st o hr => nomatch (show (none : pm_R) = some o from hr)
  | n + 1 => fun d h m pc ls st o hr => by
    have hr : pm_F X (pm_x X n) d h m pc ls st = some o := hr
    unfold pm_F at hr
    split at hr
    · cases hr
    · split at hr
      · cases hr
      · exact pm_tDsp X _ _ _ _ _ _ _ _ _ _ _ (pm_mono X n) hr
end
section
/-! soundness of a frame of the class, of the reference or of the JDK: by the steps of the run -/
theorem pm_lay_cons2 {v : Value} (h : v.category = 2) (vs : List Value) (n : Nat) : pm_lay (v :: vs) n = some v :: none :: pm_lay vs (n - 2) := by
  cases v with
  | long x => rfl
  | double x => rfl
  | int x => exact absurd h (show ¬ (1 : Nat) = 2 by decide)
  | float x => exact absurd h (show ¬ (1 : Nat) = 2 by decide)
  | null => exact absurd h (show ¬ (1 : Nat) = 2 by decide)
  | ref x => exact absurd h (show ¬ (1 : Nat) = 2 by decide)
  | retAddr x => exact absurd h (show ¬ (1 : Nat) = 2 by decide)
theorem pm_lay_cons1 {v : Value} (h : ¬ v.category = 2) (vs : List Value) (n : Nat) : pm_lay (v :: vs) n = some v :: pm_lay vs (n - 1) := by
  cases v with
  | long x => exact absurd rfl h
  | double x => exact absurd rfl h
  | int x => rfl
  | float x => rfl
  | null => rfl
  | ref x => rfl
  | retAddr x => rfl
theorem pm_lay_nil (n : Nat) : pm_lay [] n = List.replicate n none := pm_rep_eq none n
theorem pm_sl_cons (v : Value) (vs : List Value) : lg_sl (v :: vs) = (if v.category = 2 then [.val v, .second] else [.val v]) ++ lg_sl vs := by simp [lg_sl]
theorem pm_lay_slots : ∀ (vs : List Value) (n : Nat), (lg_sl vs).length ≤ (pm_lay vs n).length
  | [], n => Nat.zero_le _
  | v :: vs, n => by
    rw [pm_sl_cons, List.length_append]
    by_cases h : v.category = 2
    · rw [pm_lay_cons2 h, if_pos h]
      have := pm_lay_slots vs (n - 2)
      simp only [List.length_cons, List.length_nil]; omega
    · rw [pm_lay_cons1 h, if_neg h]
      have := pm_lay_slots vs (n - 1)
      simp only [List.length_cons, List.length_nil]; omega
theorem pm_lay_get : ∀ (vs : List Value) (n j i : Nat) (v : Value), (pm_lay vs n)[i]? = some (some v) → (j + i, v) ∈ lv_args j vs
  | [], n, j, i, v, h => by
    rw [pm_lay_nil, List.getElem?_replicate] at h
    split at h <;> cases h
  | w :: vs, n, j, i, v, h => by
    show (j + i, v) ∈ (j, w) :: lv_args (if w.category = 2 then j + 2 else j + 1) vs
    by_cases hc : w.category = 2
    · rw [pm_lay_cons2 hc] at h
      rw [if_pos hc]
      match i, h with
      | 0, h =>
        have h : some (some w) = some (some v) := h
        cases h
        exact List.mem_cons_self
      | 1, h =>
        have h : (some none : Option (Option Value)) = some (some v) := h
        cases h
      | i + 2, h =>
        have h1 := pm_lay_get vs (n - 2) (j + 2) i v h
        rw [show j + (i + 2) = j + 2 + i by omega]
        exact List.mem_cons_of_mem _ h1
    · rw [pm_lay_cons1 hc] at h
      rw [if_neg hc]
      match i, h with
      | 0, h =>
        have h : some (some w) = some (some v) := h
        cases h
        exact List.mem_cons_self
      | i + 1, h =>
        have h1 := pm_lay_get vs (n - 1) (j + 1) i v h
        rw [show j + (i + 1) = j + 1 + i by omega]
        exact List.mem_cons_of_mem _ h1
theorem pm_args_map (ad : Nat → Nat) : ∀ (vs : List Value) (j : Nat), lv_args j (vs.map (pm_rv ad)) = (lv_args j vs).map (fun q => (q.1, pm_rv ad q.2))
  | [], j => rfl
  | v :: vs, j => by
    show (j, pm_rv ad v) :: lv_args (if (pm_rv ad v).category = 2 then j + 2 else j + 1) (vs.map (pm_rv ad)) = _
    rw [pm_rv_cat, pm_args_map ad vs]
    rfl
theorem pm_sl_map (ad : Nat → Nat) : ∀ vs : List Value, (lg_sl (vs.map (pm_rv ad))).length = (lg_sl vs).length
  | [] => rfl
  | v :: vs => by
    rw [List.map_cons, pm_sl_cons, pm_sl_cons, List.length_append, List.length_append, pm_sl_map ad vs, pm_rv_cat]
    by_cases h : v.category = 2
    · rw [if_pos h, if_pos h]; rfl
    · rw [if_neg h, if_neg h]; rfl
/-- the locals at a method's start -/
theorem pm_entry {ad : Nat → Nat} {As : List Value} {n : Nat} (h : (pm_lay As n).length = n) : pm_lr ad n (pm_lay As n) ((lg_sl (As.map (pm_rv ad)) ++ List.replicate (n - (lg_sl (As.map (pm_rv ad))).length) Slot.unset).toArray) := by
  have h1 : (lg_sl (As.map (pm_rv ad))).length ≤ n := by
    rw [pm_sl_map]
    have := pm_lay_slots As n
    omega
  obtain ⟨a1, a2, a3⟩ := lv_entry (As.map (pm_rv ad)) h1
  refine ⟨a1, h, a2, fun i v hv => ?_⟩
  have h2 := pm_lay_get As n 0 i v hv
  rw [Nat.zero_add] at h2
  refine a3 (i, pm_rv ad v) ?_
  rw [pm_args_map]
  exact List.mem_map.mpr ⟨(i, v), h2, rfl⟩
/-- the contract of Arrays.fill -/
def pm_rm0 (mc ms : Nat) : Room := { frames := 0, cells := mc, slots := ms, locals := 0 }
def pm_Fill (l : Launch) (X : List (Nat × List Value)) : Prop := ∀ (D : va_G) (cA : Nat → ClassId) (A : Nat → Prop) (ad : Nat → Nat) (y : pm_Hd) (e : pm_M) (h : pm_H) (k : Nat) (v : List Value) (z : Int32), pm_get pm_hds 324 = some y → pm_ent 324 = some e → h[k]? = some (.inl (0, v)) → v.length ≤ 60000 →
  Met l y.1 (pm_wsm y e) (pm_rm0 ((h.set k (.inl (0, List.replicate v.length (.int z)))).length - h.length) (pm_slt (h.set k (.inl (0, List.replicate v.length (.int z)))) - pm_slt h)) (pm_Pc D cA A ad X h [.ref (16 + k), .int z]) (pm_Qc D cA A ad (h.set k (.inl (0, List.replicate v.length (.int z)))) none) ((h.set k (.inl (0, List.replicate v.length (.int z)))).length - h.length) (pm_slt (h.set k (.inl (0, List.replicate v.length (.int z)))) - pm_slt h) A
theorem pm_own_all : pm_kdt.all (fun c => c.all (fun q => Nat.beq q.2 14 || (Nat.beq q.1 309 || (match pm_ent q.1 with
  | some e => !Nat.beq e.2.2.1 13
  | none => false)))) = true := by decide +kernel
theorem pm_own309 : pm_get pm_kdt 309 = none ∨ ((pm_get pm_kdt 309).any fun q => Nat.beq q 0 || Nat.ble 4 q) = true := by decide +kernel
theorem pm_own {m kd : Nat} {e : pm_M} (h : pm_get pm_kdt m = some kd) (he : pm_ent m = some e) (hk : kd = 1 ∨ kd = 2 ∨ kd = 3) : e.2.2.1 ≠ 13 := by
  obtain ⟨c, hc, hm⟩ := pm_get_mem h
  have h1 := List.all_eq_true.mp (List.all_eq_true.mp pm_own_all c hc) _ hm
  dsimp only at h1
  rw [he, Bool.or_eq_true, Bool.or_eq_true] at h1
  rcases h1 with q | q | q
  · have := Nat.eq_of_beq_eq_true q
    omega
  · have := Nat.eq_of_beq_eq_true q
    subst this
    rcases pm_own309 with g | g
    · rw [g] at h; cases h
    · rw [h] at g
      have g : (Nat.beq kd 0 || Nat.ble 4 kd) = true := g
      rw [Bool.or_eq_true] at g
      rcases g with g | g
      · have := Nat.eq_of_beq_eq_true g
        omega
      · have := Nat.le_of_ble_eq_true g
        omega
  · intro q2
    dsimp only at q
    rw [q2] at q
    cases q
theorem pm_no_inv : pmc_324.all (fun c => c.all (fun q => match q.2.1 with
  | .invokevirtual _ => false
  | .invokestatic _ => false
  | .invokespecial _ => false
  | _ => true)) = true := by decide +kernel
theorem pm_e324 : pm_ent 324 = some (2, 4, 14, 4, pmc_324) := rfl
theorem pm_o309 : (pm_ent 309).map (fun e => e.2.2.1) = some 13 := by decide +kernel
section PmL
variable {p : Program} {l : Launch} {e : Env} {R : Room} {s : State} {mid : MethodId} {args : Array Value} {below : List Frame} {meth : Method} {c : Code} {H : Heap} {locs : List Loc} {cells slots : Nat} {Q : State → Prop}
variable {D : va_G} {cA : Nat → ClassId} {A : Nat → Prop} {ad : Nat → Nat} {X : List (Nat × List Value)} {m : Nat} {E : pm_M} {y : pm_Hd} {hb sb x : Nat} {h : pm_H}
variable {d pc len : Nat} {ls : pm_L} {st : List Value} {ih : pm_I} {o : pm_H × (Option Value ⊕ Unit)}
/-- a call of Arrays.fill -/
theorem pm_jFill {ix a b k : Nat} {z : Int32} {v r : List Value} (hF : pm_Fill l X) (F : pm_Fr p s mid args meth c D cA A ad X m E y) (hA : pm_At s D cA A ad m hb sb x h H locs cells slots) (hg : pm_get (pm_lnk E.2.2.1) ix = some (12, 6, a, b)) (hd : decode (pm_byt y.2.1) pc = .ok (.invokestatic ix, 3))
    (hR : d + 10 ≤ R.frames ∧ 100 * d + 200 ≤ R.locals) (hroom : ∀ (h1 : pm_H) (q : Nat) (ls : pm_L) (st : List Value), ih d h1 m q ls st = some o → h1.length + x ≤ R.cells + hb ∧ pm_slt h1 + 6 * x ≤ R.slots + sb)
    (hst : st = .int z :: .ref (16 + k) :: r) (hk : h[k]? = some (.inl (0, v))) (hv : v.length ≤ 60000) (hc : pm_cat8 r = true)
    (hK : ∀ h1 H1 locs1 cells1 slots1 q ls st, pm_At s D cA A ad m hb sb x h1 H1 locs1 cells1 slots1 → ih d h1 m q ls st = some o → pm_J p l e R s mid args below meth c H1 locs1 cells1 slots1 Q ad E.2.1 q ls st)
    (hr : ih d (h.set k (.inl (0, List.replicate v.length (.int z)))) m (pc + 3) ls r = some o) : pm_J p l e R s mid args below meth c H locs cells slots Q ad E.2.1 pc ls st := by
  intro LS hl
  obtain ⟨i, hi⟩ := pm_link hg
  have hi : (Nat.ble 6 6 && decide (tables_1[i]? = some (.methodLink (pm_nm E.2.2.1) ix (pm_prn 6)))) = true := hi
  rw [Bool.and_eq_true, decide_eq_true_eq] at hi
  have q3 : pm_get pm_kdt 324 = some 2 := by decide +kernel
  obtain ⟨y3, e3, ps, r1, r2, r3⟩ := pm_head q3
  have ee : e3 = (2, 4, 14, 4, pmc_324) := Option.some.inj (r2.symm.trans pm_e324)
  have ey : y3.1 = pm_prn 6 := by
    have : (pm_get pm_hds 324).map (fun q => q.1) = some (pm_prn 6) := by decide +kernel
    rw [r1] at this
    exact Option.some.inj this
  obtain ⟨w1, w2, w3, w4, w5, w6, w7, w8, w9, w10⟩ := pm_hd_ok r3 (Or.inr (Or.inl rfl))
  have hpre := pm_pre (As := [.ref (16 + k), .int z]) F hA
  obtain ⟨hx, hbc, hml, hown, hw, hCx, hnm, he, hyy, hAs⟩ := F
  have hS : CallFix p mid c (pm_byt y.2.1) E.2.1 s args pm_W0 (pm_nm E.2.2.1) := ⟨hx, hbc, hml, hown, hw⟩
  have hG : GoodIn pm_W0 (pm_wsm y3 e3) := pm_good fun w hw9 => by
    rcases List.mem_cons.mp hw9 with rfl | hw9
    · exact w1
    · exact hw9
  have hsz : pm_sz (.inl (0, List.replicate v.length (.int z))) = pm_sz (.inl (0, v)) := by simp [pm_sz]
  have hle := pm_le_set hk hsz
  have hs1 := pm_slt_set hk hsz
  have hl1 : (h.set k (.inl (0, List.replicate v.length (.int z)))).length = h.length := List.length_set
  have hRR : (pm_rm0 ((h.set k (.inl (0, List.replicate v.length (.int z)))).length - h.length) (pm_slt (h.set k (.inl (0, List.replicate v.length (.int z)))) - pm_slt h)).frames + 1 ≤ R.frames ∧ 8 + (e3.2.1 + 11) + (pm_rm0 ((h.set k (.inl (0, List.replicate v.length (.int z)))).length - h.length) (pm_slt (h.set k (.inl (0, List.replicate v.length (.int z)))) - pm_slt h)).locals ≤ R.locals := ⟨by show 0 + 1 ≤ _; omega, by show 8 + (e3.2.1 + 11) + 0 ≤ R.locals; omega⟩
  have hst' : st.map (pm_rv ad) = ([Value.ref (16 + k), .int z].map (pm_rv ad)).reverse ++ r.map (pm_rv ad) := by rw [hst]; rfl
  have hW8 : 2 * (F0 mid pc LS (st.map (pm_rv ad))).monitorRoom + ((r.map (pm_rv ad)).map fun v => v.category).sum ≤ 8 := lv_room (pm_cat8_rv hc)
  obtain ⟨v1, v2⟩ := w9 rfl
  obtain ⟨rm1, rm2⟩ := hroom _ _ _ _ hr
  have a4 := hA.2.2.2.1
  have a5 := hA.2.2.2.2
  have hn : ([Value.ref (16 + k), .int z].map (pm_rv ad)).length = e3.1 := by rw [ee]; rfl
  have hM := hF D cA A ad y3 e3 h k v z r1 r2 hk hv
  have hlk : (Cond.methodLink (pm_nm E.2.2.1) ix y3.1).before args s = true := by rw [ey]; exact hw _ (pm_W0_at i hi.2 rfl)
  have hrun : va_Run p l e R s mid args below meth c H locs cells slots ((h.set k (.inl (0, List.replicate v.length (.int z)))).length - h.length) (pm_slt (h.set k (.inl (0, List.replicate v.length (.int z)))) - pm_slt h) (F0 mid pc LS (st.map (pm_rv ad))) (r.map (pm_rv ad)) (pm_Qc D cA A ad (h.set k (.inl (0, List.replicate v.length (.int z)))) none ([Value.ref (16 + k), .int z].map (pm_rv ad)).toArray) A :=
    va_runS hS hM ⟨callB_of e3.1 hw hG rfl rfl rfl (hw _ w2) hlk ⟨w7.1, w7.2, v2⟩ hRR, hw _ v1⟩ ⟨pm_Pc_blind, hpre⟩ rfl hn hl.1 hst' hW8 hd ⟨by omega, by omega⟩
  exact pm_after hrun hA hle.1 hle.2 fun H1 locs1 hA1 => hK _ _ _ _ _ _ _ _ hA1 hr LS hl
end PmL
/-- what the end of a frame gives back -/
theorem pm_ret {p : Program} {l : Launch} {e : Env} {R : Room} {s : State} {mid : MethodId} {args : Array Value} {below : List Frame} {meth : Method} {c : Code} {H : Heap} {locs : List Loc} {cells slots : Nat} {D : va_G} {cA : Nat → ClassId} {A : Nat → Prop} {ad : Nat → Nat} {m : Nat} {E : pm_M} {y : pm_Hd} {hb sb pc mc ms : Nat} {ls : pm_L} {st : List Value} {h1 : pm_H} {v : Option Value}
    (hx : p.tables.exec = Jvm.exec) (hbc : c.code = pm_byt y.2.1) (hrt : meth.sig.returnType = y.2.2) (hlocks : meth.locks = false) (hty : pm_tyok E.2.2.2.1 y.2.2 = true) (hA : pm_At s D cA A ad m hb sb 0 h1 H locs cells slots) (hc : cells = mc) (hs : slots = ms) (hE : pm_End y E (.inl v) pc st) :
    pm_J p l e R s mid args below meth c H locs cells slots (MQ below (pm_Qc D cA A ad h1 v) args s mc ms A) ad E.2.1 pc ls st := by
  subst hc; subst hs
  intro LS hl
  obtain ⟨hrel, hS, -⟩ := hA
  have hq : ∀ t : State, t.heap = H → s.WarmedH t.vm → pm_Qc D cA A ad h1 v args s (.returned (v.map (pm_rv ad))) t := fun t ht hW => ⟨rfl, by rw [ht]; exact hrel, hS.F ht⟩
  cases v with
  | none =>
    obtain ⟨e1, e2, e3⟩ := hE
    subst e2
    rw [e3] at hty
    have hr : meth.sig.returnType = none := by
      rw [hrt]
      cases hz : y.2.2 with
      | none => rfl
      | some ty => rw [hz] at hty; cases hty
    exact W.vret hx hbc hr hq hS.2.2 e1
  | some v =>
    obtain ⟨e1, e2, e3⟩ := hE
    subst e1
    rcases e3 with ⟨q1, q2⟩ | ⟨q1, q2⟩ | ⟨q1, q2⟩
    · cases v with
      | int x =>
        rcases (by omega : E.2.2.2.1 = 0 ∨ E.2.2.2.1 = 1) with q | q
        · rw [q] at hty
          have hr : meth.sig.returnType = some .int := by
            rw [hrt]
            cases hz : y.2.2 with
            | none => rw [hz] at hty; cases hty
            | some ty => rw [hz] at hty; cases ty <;> first | rfl | cases hty
          exact W.iret hx hbc hr hq hS.2.2 q2
        · rw [q] at hty e2
          have hr : meth.sig.returnType = some .boolean := by
            rw [hrt]
            cases hz : y.2.2 with
            | none => rw [hz] at hty; cases hty
            | some ty => rw [hz] at hty; cases ty <;> first | rfl | cases hty
          have e2 : (decide (x = 0) || decide (x = 1)) = true := e2
          rw [Bool.or_eq_true, decide_eq_true_eq, decide_eq_true_eq] at e2
          have hn : narrow .boolean (.int x) = .int x := by
            rcases e2 with rfl | rfl <;> rfl
          exact W.zret hx hbc hr hn hq hS.2.2 q2
      | long x => rcases (by omega : E.2.2.2.1 = 0 ∨ E.2.2.2.1 = 1) with q | q <;> (rw [q] at e2; cases e2)
      | float x => cases e2
      | double x => cases e2
      | null => rcases (by omega : E.2.2.2.1 = 0 ∨ E.2.2.2.1 = 1) with q | q <;> (rw [q] at e2; cases e2)
      | ref x => rcases (by omega : E.2.2.2.1 = 0 ∨ E.2.2.2.1 = 1) with q | q <;> (rw [q] at e2; cases e2)
      | retAddr x => cases e2
    · rw [q1] at hty e2
      have hr : meth.sig.returnType = some .long := by
        rw [hrt]
        cases hz : y.2.2 with
        | none => rw [hz] at hty; cases hty
        | some ty => rw [hz] at hty; cases ty <;> first | rfl | cases hty
      cases v with
      | long x => exact W.lret hx hbc hr hq hS.2.2 q2
      | int x => cases e2
      | float x => cases e2
      | double x => cases e2
      | null => cases e2
      | ref x => cases e2
      | retAddr x => cases e2
    · rw [q1] at hty e2
      have hr : ∃ rt, meth.sig.returnType = some rt ∧ ((∃ n, rt = .object n) ∨ ∃ t, rt = .array t) := by
        rw [hrt]
        cases hz : y.2.2 with
        | none => rw [hz] at hty; cases hty
        | some ty =>
          rw [hz] at hty
          cases ty with
          | object n => exact ⟨_, rfl, Or.inl ⟨n, rfl⟩⟩
          | array t => exact ⟨_, rfl, Or.inr ⟨t, rfl⟩⟩
          | _ => cases hty
      obtain ⟨rt, hr1, hr2⟩ := hr
      have hv : pm_rv ad v = .null ∨ ∃ a, pm_rv ad v = .ref a := by
        cases v with
        | null => exact Or.inl rfl
        | ref x => exact Or.inr ⟨_, rfl⟩
        | int x => cases e2
        | long x => cases e2
        | float x => cases e2
        | double x => cases e2
        | retAddr x => cases e2
      exact W.aret hx hbc hr1 hr2 hv hq hS.2.2 q2
/-- from the frame to the method's contract -/
theorem pm_MtOf {l : Launch} {D : va_G} {cA : Nat → ClassId} {A : Nat → Prop} {ad : Nat → Nat} {X : List (Nat × List Value)} {m : Nat} {E : pm_M} {y : pm_Hd} {h h1 : pm_H} {As : List Value} {v : Option Value} {rm : Room} {mc ms : Nat} (hrc : rm.cells = mc) (hrs : rm.slots = ms) (hmc : mc = h1.length - h.length) (hms : ms = pm_slt h1 - pm_slt h) (he : pm_ent m = some E) (hy : pm_get pm_hds m = some y) (hpl : Jvm.plainName y.1.cls = true) (hcl : y.1.cls = pm_nm E.2.2.1) (hty : pm_tyok E.2.2.2.1 y.2.2 = true) (hlay : (pm_lay As E.2.1).length = E.2.1)
    (hfl : ∀ {p : Program} {e : Env} {s : State} {mid : MethodId} {args : Array Value} {below : List Frame} {meth : Method} {c : Code} {Q : State → Prop}, pm_Fr p s mid args meth c D cA A ad X m E y → pm_At s D cA A ad m h.length (pm_slt h) 0 h s.heap [] 0 0 →
      (∀ H1 locs1 cells1 slots1 pc1 ls1 st1, pm_At s D cA A ad m h.length (pm_slt h) 0 h1 H1 locs1 cells1 slots1 → pm_End y E (.inl v) pc1 st1 → pm_J p l e rm s mid args below meth c H1 locs1 cells1 slots1 Q ad E.2.1 pc1 ls1 st1) → pm_J p l e rm s mid args below meth c s.heap [] 0 0 Q ad E.2.1 0 (pm_lay As E.2.1) []) :
    Met l y.1 (pm_wsm y E) rm (pm_Pc D cA A ad X h As) (pm_Qc D cA A ad h1 v) mc ms A := by
  refine Met.ofW (cc := pm_byt y.2.1) (maxL := E.2.1) (ret := y.2.2) hpl rfl ?_
  intro p e s mid args below meth c s₁ B hml hv
  obtain ⟨rfl, hCx, hrel, hAs⟩ := hv
  have hts := atoms_spec (ws := pm_wsm y E) B.pre
  have hown : s.vm.findClass y.1.cls = some mid.cls := findClass_of_methodNamed B.named
  have hlocks := B.notSynchronized
  have hin : meth.name = y.1.name := (name_of_methodNamed B.named B.method).1
  rw [lg_entry_eq]
  rw [hcl] at hown
  have F : pm_Fr p s mid (As.map (pm_rv ad)).toArray meth c D cA A ad X m E y := ⟨B.exec, B.bytes, hml, hown, fun w hw => hts w (List.mem_cons_of_mem _ hw), hCx, hin, he, hy, hAs⟩
  have hA0 : pm_At s D cA A ad m h.length (pm_slt h) 0 h s.heap [] 0 0 := ⟨hrel, va_S.rf, Or.inr ⟨rfl, rfl⟩, by omega, by omega⟩
  refine hfl (Q := MQ below (pm_Qc D cA A ad h1 v) (As.map (pm_rv ad)).toArray s mc ms A) F hA0 (fun H1 locs1 cells1 slots1 pc1 ls1 st1 hA1 hE => ?_) _ (pm_entry hlay)
  have a4 := hA1.2.2.2.1
  have a5 := hA1.2.2.2.2
  exact pm_ret B.exec B.bytes B.returns hlocks hty hA1 (by omega) (by omega) hE
end
section
/-! soundness of a frame, the run: by the number of steps -/
theorem pm_gC1 {ih : pm_I} {d : Nat} {h : pm_H} {m own pc : Nat} {ls : pm_L} {m' ci : Nat} {As rest : List Value} {o : pm_H × (Option Value ⊕ Unit)} (hg : pm_gC 1 ih d h m own pc ls m' ci As rest = some o) : ∃ a r fs, As = .ref a :: r ∧ pm_cell h a = some (.inr (ci, fs)) ∧ pm_call ih d h m pc ls m' As rest (Nat.beq own 13 && !Nat.beq m 309) = some o := by
  have hg : (match (generalizing := false) As with
    | .ref a :: _ => match pm_cell h a with
      | some (.inr (cj, _)) => cond (Nat.beq cj ci) (pm_call ih d h m pc ls m' As rest (Nat.beq own 13 && !Nat.beq m 309)) none
      | _ => none
    | _ => none) = some o := hg
  split at hg
  · rename_i a r
    split at hg
    · rename_i cj fs hcell
      replace hg := pm_cond_true hg
      obtain ⟨hcj, hg⟩ := hg
      have hcj := Nat.eq_of_beq_eq_true hcj
      subst hcj
      exact ⟨_, _, _, rfl, hcell, hg⟩
    · cases hg
  · cases hg
theorem pm_gC3 {ih : pm_I} {d : Nat} {h : pm_H} {m own pc : Nat} {ls : pm_L} {m' ci : Nat} {As rest : List Value} {o : pm_H × (Option Value ⊕ Unit)} (hg : pm_gC 3 ih d h m own pc ls m' ci As rest = some o) : ∃ a r, As = .ref a :: r ∧ pm_call ih d h m pc ls m' As rest false = some o := by
  have hg : (match (generalizing := false) As with
    | .ref _ :: _ => pm_call ih d h m pc ls m' As rest false
    | _ => none) = some o := hg
  split at hg
  · rename_i a r
    exact ⟨_, _, rfl, hg⟩
  · cases hg
set_option maxHeartbeats 2000000 in
theorem pm_FL {l : Launch} {X : List (Nat × List Value)} (hX : pm_X0 X) {D : va_G} {cA : Nat → ClassId} {A : Nat → Prop} {ad : Nat → Nat} : ∀ (n : Nat) {p : Program} {e : Env} {R : Room} {s : State} {mid : MethodId} {args : Array Value} {below : List Frame} {meth : Method} {c : Code} {H : Heap} {locs : List Loc} {cells slots : Nat} {Q : State → Prop} {m : Nat} {E : pm_M} {y : pm_Hd} {hb sb : Nat} {h : pm_H} {d pc : Nat} {ls : pm_L} {st : List Value} {o : pm_H × (Option Value ⊕ Unit)},
    (m = 324 ∨ (pm_Fill l X ∧ d + 10 ≤ R.frames ∧ 100 * d + 200 ≤ R.locals)) → E.2.2.1 ≠ 13 → pm_Fr p s mid args meth c D cA A ad X m E y → pm_At s D cA A ad m hb sb 0 h H locs cells slots → (o.1.length ≤ R.cells + hb ∧ pm_slt o.1 ≤ R.slots + sb) →
    (∀ H1 locs1 cells1 slots1 pc1 ls1 st1, pm_At s D cA A ad m hb sb 0 o.1 H1 locs1 cells1 slots1 → pm_End y E o.2 pc1 st1 → (∀ z, o.2 = .inr z → pm_scH o.1 = true) → pm_J p l e R s mid args below meth c H1 locs1 cells1 slots1 Q ad E.2.1 pc1 ls1 st1) →
    pm_x X n d h m pc ls st = some o → pm_J p l e R s mid args below meth c H locs cells slots Q ad E.2.1 pc ls st
  | 0, _, _, _, _, _, _, _, _, _, _, _, _, _, _, _, _, _, _, _, _, _, _, _, _, o, _, _, _, _, _, _, hr => nomatch (show (none : pm_R) = some o from hr)
  | n + 1, p, e, R, s, mid, args, below, meth, c, H, locs, cells, slots, Q, m, E, y, hb, sb, h, d, pc, ls, st, o, hf, hown, F, hA, hfin, hend, hr => by
    have he := F.2.2.2.2.2.2.2.1
    have hy := F.2.2.2.2.2.2.2.2.1
    have hr : pm_F X (pm_x X n) d h m pc ls st = some o := hr
    unfold pm_F at hr
    rw [he] at hr
    dsimp only at hr
    have hm309 : m ≠ 309 := by
      rintro rfl
      have h9 := pm_o309
      rw [he] at h9
      exact hown (Option.some.inj h9)
    split at hr
    · cases hr
    · rename_i q hq
      obtain ⟨i, len⟩ := q
      obtain ⟨k1, k2, k3⟩ := pm_code he hy hq
      have hroom : ∀ (h1 : pm_H) (q : Nat) (ls : pm_L) (st : List Value), pm_x X n d h1 m q ls st = some o → h1.length + 0 ≤ R.cells + hb ∧ pm_slt h1 + 6 * 0 ≤ R.slots + sb := by
        intro h1 q ls st hz
        have hm := pm_mono X n _ _ _ _ _ _ _ hz
        have m1 := hm.1
        have m2 := hm.2
        obtain ⟨f1, f2⟩ := hfin
        exact ⟨by omega, by omega⟩
      have hK : ∀ h1 H1 locs1 cells1 slots1 q ls st, pm_At s D cA A ad m hb sb 0 h1 H1 locs1 cells1 slots1 → pm_x X n d h1 m q ls st = some o → pm_J p l e R s mid args below meth c H1 locs1 cells1 slots1 Q ad E.2.1 q ls st :=
        fun h1 H1 locs1 cells1 slots1 q ls st hA1 hz => pm_FL hX n hf hown F hA1 hfin hend hz
      refine pm_one F hX hA k1 k2 k3 hroom hK (fun e1 e2 e3 => hend H locs cells slots pc ls st (by rw [e1]; exact hA) e2 (fun z hz => by rw [e1]; exact e3 z hz)) (fun how ix hi hlen hg => ?_) hr
      have hF : pm_Fill l X ∧ d + 10 ≤ R.frames ∧ 100 * d + 200 ≤ R.locals := by
        rcases hf with rfl | hf
        · exfalso
          have ee : E = (2, 4, 14, 4, pmc_324) := Option.some.inj (he.symm.trans pm_e324)
          subst ee
          obtain ⟨c9, hc9, hm9⟩ := pm_get_mem hq
          have h9 := List.all_eq_true.mp (List.all_eq_true.mp pm_no_inv c9 hc9) _ hm9
          rcases hi with ⟨-, rfl⟩ | ⟨-, rfl⟩ | ⟨-, rfl⟩ <;> cases h9
        · exact hf
      obtain ⟨hF, hR⟩ := hF
      subst hlen
      unfold pm_gInv at hg
      split at hg
      · rename_i kind m' na ci hl
        have hd2 : how = 2 → decode (pm_byt y.2.1) pc = .ok (.invokestatic ix, 3) := by
          rintro rfl
          rcases hi with ⟨q, -⟩ | ⟨-, rfl⟩ | ⟨q, -⟩
          · cases q
          · exact k1
          · cases q
        have hd3 : how = 3 → decode (pm_byt y.2.1) pc = .ok (.invokespecial ix, 3) := by
          rintro rfl
          rcases hi with ⟨q, -⟩ | ⟨q, -⟩ | ⟨-, rfl⟩
          · cases q
          · cases q
          · exact k1
        have hd1 : how = 1 → decode (pm_byt y.2.1) pc = .ok (.invokevirtual ix, 3) := by
          rintro rfl
          rcases hi with ⟨-, rfl⟩ | ⟨q, -⟩ | ⟨q, -⟩
          · exact k1
          · cases q
          · cases q
        have hhow : how = 1 ∨ how = 2 ∨ how = 3 := by
          rcases hi with ⟨q, -⟩ | ⟨q, -⟩ | ⟨q, -⟩
          · exact Or.inl q
          · exact Or.inr (Or.inl q)
          · exact Or.inr (Or.inr q)
        cases hk : Nat.beq kind 12 with
        | true =>
          rw [hk, cond_true] at hg
          replace hg := pm_cond_true hg
          obtain ⟨hb1, hg⟩ := hg
          have hk := Nat.eq_of_beq_eq_true hk
          subst hk
          have hb1 := Nat.eq_of_beq_eq_true hb1
          refine pm_jPrim F hA hl hb1 ⟨hd2, hd3⟩ (Or.inl hm309) hR hroom (fun z k v r q g1 g2 g3 g4 g5 g6 g7 => ?_) hK hg
          subst g1; subst g7
          exact pm_jFill hF F hA hl (hd2 hb1) hR hroom g2 g3 g4 g5 hK g6
        | false =>
          rw [hk, cond_false] at hg
          split at hg
          · rename_i As rest hpop
            replace hg := pm_cond_true hg
            obtain ⟨hc8, hg⟩ := hg
            cases hkh : Nat.beq kind how with
            | true =>
              rw [hkh, cond_true] at hg
              have hkh := Nat.eq_of_beq_eq_true hkh
              subst hkh
              have hown2 : Nat.beq E.2.2.1 13 = false := by
                cases hz : Nat.beq E.2.2.1 13 with
                | true => exact absurd (Nat.eq_of_beq_eq_true hz) hown
                | false => rfl
              have hM : ∀ d' m' y' e' As h1 v, pm_get pm_hds m' = some y' → pm_ent m' = some e' → pm_get pm_kdt m' = some kind → As.length = e'.1 → (pm_lay As e'.2.1).length = e'.2.1 → pm_x X n d' h m' 0 (pm_lay As e'.2.1) [] = some (h1, .inl v) → pm_Mt l D cA A ad X y' e' d' h As h1 v := by
                intro d' m' y' e' As h1 v g1 g2 g3 g4 g5 g6
                obtain ⟨y3, e3, ps, r1, r2, r3⟩ := pm_head g3
                have ey : y3 = y' := Option.some.inj (r1.symm.trans g1)
                have ee : e3 = e' := Option.some.inj (r2.symm.trans g2)
                subst ey; subst ee
                obtain ⟨w1, w2, w3, w4, w5, w6, -⟩ := pm_hd_ok r3 hhow
                have hmn := pm_mono X n _ _ _ _ _ _ _ g6
                refine pm_MtOf (m := m') (rm := pm_rm d' (h1.length - h.length) (pm_slt h1 - pm_slt h)) rfl rfl rfl rfl g2 g1 w6 w3 w4 g5 (fun {p e s mid args below meth c Q} F9 hA9 hend9 => ?_)
                exact pm_FL hX n (Or.inr ⟨hF, Nat.le_refl _, Nat.le_refl _⟩) (pm_own g3 g2 hhow) F9 hA9 ⟨by have := hmn.1; show h1.length ≤ (h1.length - h.length) + h.length; omega, by have := hmn.2; show pm_slt h1 ≤ (pm_slt h1 - pm_slt h) + pm_slt h; omega⟩ (fun H1 locs1 cells1 slots1 pc1 ls1 st1 q1 q2 _ => hend9 H1 locs1 cells1 slots1 pc1 ls1 st1 q1 q2) g6
              have hmono : ∀ d' h0 m0 q ls st h1 v, pm_x X n d' h0 m0 q ls st = some (h1, v) → pm_le h0 h1 := fun d' h0 m0 q ls st h1 v hz => pm_mono X n _ _ _ _ _ _ _ hz
              rcases hhow with rfl | rfl | rfl
              · obtain ⟨a, r, fs, rfl, hcell, hg⟩ := pm_gC1 hg
                rw [hown2, Bool.false_and] at hg
                exact pm_jCall F hA hl (Or.inl rfl) ⟨hd1, hd2, hd3⟩ hpop hc8 (fun _ => ⟨a, r, fs, rfl, hcell⟩) (fun q => by cases q) hR hroom hmono hM hK hg
              · have hg : pm_call (pm_x X n) d h m pc ls m' As rest false = some o := hg
                exact pm_jCall F hA hl (Or.inr (Or.inl rfl)) ⟨hd1, hd2, hd3⟩ hpop hc8 (fun q => by cases q) (fun q => by cases q) hR hroom hmono hM hK hg
              · obtain ⟨a, r, rfl, hg⟩ := pm_gC3 hg
                exact pm_jCall F hA hl (Or.inr (Or.inr rfl)) ⟨hd1, hd2, hd3⟩ hpop hc8 (fun q => by cases q) (fun _ => ⟨a, r, rfl⟩) hR hroom hmono hM hK hg
            | false =>
              rw [hkh, cond_false] at hg
              replace hg := pm_cond_true hg
              obtain ⟨hb2, -⟩ := hg
              rw [Bool.and_eq_true, Bool.and_eq_true] at hb2
              exact absurd (Nat.eq_of_beq_eq_true hb2.2.2) hown
          · cases hg
      · cases hg
end
section
/-! Arrays.fill: its loop on the machine, its contract -/
theorem pm_x_at {X : List (Nat × List Value)} {n m pc : Nat} {E : pm_M} {i : Instr} {len d : Nat} {h : pm_H} {ls : pm_L} {st : List Value} (he : pm_ent m = some E) (hg : pm_get E.2.2.2.2 pc = some (i, len)) : pm_x X (n + 1) d h m pc ls st = pm_dsp X i (pm_x X n) d h m E.2.2.1 pc len ls st := by
  rw [pm_x_succ]
  unfold pm_F
  rw [he]
  dsimp only
  rw [hg]
theorem pm_rw {α : Type} {a b c : α} (h1 : a = b) (h2 : b = c) : a = c := h1.trans h2
abbrev pm_fls (k : Nat) (z : Int32) (j n : Int32) : pm_L := [some (.ref (16 + k)), some (.int z), some (.int j), some (.int n)]
theorem pm_fill_loop (X : List (Nat × List Value)) (d k : Nat) (z : Int32) (N : Nat) (hN : N ≤ 60000) : ∀ (r j : Nat) (h : pm_H) (v : List Value), j + r = N → h[k]? = some (.inl (0, v)) → v.length = N → (∀ i : Nat, i < j → v[i]? = some (.int z)) →
    ∃ n, pm_x X n d h 324 5 (pm_fls k z (Int32.ofNat j) (Int32.ofNat N)) [] = some (h.set k (.inl (0, List.replicate N (.int z))), .inl none)
  | 0, j, h, v, hj, hk, hv, hz => by
    have hj : j = N := by omega
    subst hj
    refine ⟨4, ?_⟩
    have hvr : v = List.replicate j (.int z) := by
      apply List.ext_getElem?
      intro i
      rw [List.getElem?_replicate]
      by_cases hi : i < j
      · rw [if_pos hi]; exact hz i hi
      · rw [if_neg hi]; exact List.getElem?_eq_none (by omega)
    have hset : h.set k (.inl (0, List.replicate j (.int z))) = h := by
      rw [← hvr]
      apply List.ext_getElem?
      intro i
      by_cases hi : k = i
      · subst hi
        rw [List.getElem?_set_self (List.getElem?_eq_some_iff.mp hk).1, hk]
      · rw [List.getElem?_set_ne hi]
    rw [hset]
    refine pm_rw (pm_x_at pm_e324 rfl) ?_
    show pm_fn (5 + 1) (fun q => pm_x X 3 d h 324 q (pm_fls k z (Int32.ofNat j) (Int32.ofNat j)) [.int (Int32.ofNat j)]) = _
    rw [pm_fn_eq]
    refine pm_rw (pm_x_at pm_e324 rfl) ?_
    show pm_fn (6 + 1) (fun q => pm_x X 2 d h 324 q (pm_fls k z (Int32.ofNat j) (Int32.ofNat j)) [.int (Int32.ofNat j), .int (Int32.ofNat j)]) = _
    rw [pm_fn_eq]
    refine pm_rw (pm_x_at pm_e324 rfl) ?_
    show pm_to ((7 : Int) + 13) (fun t => cond (decide (Int32.ofNat j ≤ Int32.ofNat j)) (pm_x X 1 d h 324 t (pm_fls k z (Int32.ofNat j) (Int32.ofNat j)) []) (pm_fn (7 + 3) fun q => pm_x X 1 d h 324 q (pm_fls k z (Int32.ofNat j) (Int32.ofNat j)) [])) = _
    rw [decide_eq_true (Int32.le_refl _)]
    show pm_fn 20 (fun t => pm_x X 1 d h 324 t (pm_fls k z (Int32.ofNat j) (Int32.ofNat j)) []) = _
    rw [pm_fn_eq]
    refine pm_rw (pm_x_at pm_e324 rfl) ?_
    rfl
  | r + 1, j, h, v, hj, hk, hv, hz => by
    have hkl := (List.getElem?_eq_some_iff.mp hk).1
    obtain ⟨n, hn⟩ := pm_fill_loop X d k z N hN r (j + 1) (h.set k (.inl (0, v.set j (.int z)))) (v.set j (.int z)) (by omega) (by rw [List.getElem?_set_self hkl]) (by rw [List.length_set]; exact hv) (fun i hi => by
      by_cases hq : j = i
      · subst hq
        rw [List.getElem?_set_self (by omega)]
      · rw [List.getElem?_set_ne hq]
        exact hz i (by omega))
    rw [List.set_set] at hn
    refine ⟨n + 9, ?_⟩
    have hjN : (Int32.ofNat j).toInt = j := Int32.toInt_ofNat_of_lt (by omega)
    have hNN : (Int32.ofNat N).toInt = N := Int32.toInt_ofNat_of_lt (by omega)
    have hlt : ¬ Int32.ofNat N ≤ Int32.ofNat j := by
      rw [Int32.le_iff_toInt_le, hjN, hNN]
      omega
    have hneg : ¬ Int32.ofNat j < 0 := by
      rw [Int32.lt_iff_toInt_lt, hjN]
      have : (0 : Int32).toInt = 0 := rfl
      rw [this]; omega
    have hclamp : (Int32.ofNat j).toNatClampNeg = j := by
      show (Int32.ofNat j).toInt.toNat = j
      rw [hjN]; rfl
    have hinc : Int32.ofNat j + Int32.ofInt 1 = Int32.ofNat (j + 1) := by
      rw [Int32.ofNat_add]; rfl
    refine pm_rw (pm_x_at pm_e324 rfl) ?_
    show pm_fn (5 + 1) (fun q => pm_x X (n + 8) d h 324 q (pm_fls k z (Int32.ofNat j) (Int32.ofNat N)) [.int (Int32.ofNat j)]) = _
    rw [pm_fn_eq]
    refine pm_rw (pm_x_at pm_e324 rfl) ?_
    show pm_fn (6 + 1) (fun q => pm_x X (n + 7) d h 324 q (pm_fls k z (Int32.ofNat j) (Int32.ofNat N)) [.int (Int32.ofNat N), .int (Int32.ofNat j)]) = _
    rw [pm_fn_eq]
    refine pm_rw (pm_x_at pm_e324 rfl) ?_
    show pm_to ((7 : Int) + 13) (fun t => cond (decide (Int32.ofNat N ≤ Int32.ofNat j)) (pm_x X (n + 6) d h 324 t (pm_fls k z (Int32.ofNat j) (Int32.ofNat N)) []) (pm_fn (7 + 3) fun q => pm_x X (n + 6) d h 324 q (pm_fls k z (Int32.ofNat j) (Int32.ofNat N)) [])) = _
    rw [decide_eq_false hlt]
    show pm_fn (7 + 3) (fun q => pm_x X (n + 6) d h 324 q (pm_fls k z (Int32.ofNat j) (Int32.ofNat N)) []) = _
    rw [pm_fn_eq]
    refine pm_rw (pm_x_at pm_e324 rfl) ?_
    show pm_fn (10 + 1) (fun q => pm_x X (n + 5) d h 324 q (pm_fls k z (Int32.ofNat j) (Int32.ofNat N)) [.ref (16 + k)]) = _
    rw [pm_fn_eq]
    refine pm_rw (pm_x_at pm_e324 rfl) ?_
    show pm_fn (11 + 1) (fun q => pm_x X (n + 4) d h 324 q (pm_fls k z (Int32.ofNat j) (Int32.ofNat N)) [.int (Int32.ofNat j), .ref (16 + k)]) = _
    rw [pm_fn_eq]
    refine pm_rw (pm_x_at pm_e324 rfl) ?_
    show pm_fn (12 + 1) (fun q => pm_x X (n + 3) d h 324 q (pm_fls k z (Int32.ofNat j) (Int32.ofNat N)) [.int z, .int (Int32.ofNat j), .ref (16 + k)]) = _
    rw [pm_fn_eq]
    refine pm_rw (pm_x_at pm_e324 rfl) ?_
    have hcell : pm_cell h (16 + k) = some (.inl (0, v)) := by
      unfold pm_cell
      have : Nat.blt (16 + k) 16 = false := by
        cases hb : Nat.blt (16 + k) 16 with
        | false => rfl
        | true => have := pm_blt hb; omega
      rw [this, cond_false, pm_nth_eq, Nat.add_sub_cancel_left]
      exact hk
    have hin : pm_in (Int32.ofNat j) (pm_len v) = true := by
      unfold pm_in
      rw [decide_eq_false hneg, cond_false, hclamp, pm_len_eq, hv]
      exact Nat.ble_eq_true_of_le (by omega)
    show pm_gIst 0 (fun x => x) (pm_x X (n + 2)) d h 324 14 13 1 (pm_fls k z (Int32.ofNat j) (Int32.ofNat N)) [.int z, .int (Int32.ofNat j), .ref (16 + k)] = _
    unfold pm_gIst
    dsimp only
    rw [hcell]
    dsimp only
    rw [hin]
    show pm_fi z (fun y => pm_fn (13 + 1) fun q => pm_x X (n + 2) d (pm_set h (16 + k - 16) (.inl (0, pm_set v (Int32.ofNat j).toNatClampNeg (.int y)))) 324 q (pm_fls k z (Int32.ofNat j) (Int32.ofNat N)) []) = _
    rw [pm_fi_eq, pm_fn_eq, hclamp, pm_set_eq, pm_set_eq, Nat.add_sub_cancel_left]
    refine pm_rw (pm_x_at pm_e324 rfl) ?_
    show pm_fi (Int32.ofNat j + Int32.ofInt 1) (fun y => pm_fn (14 + 3) fun q => pm_x X (n + 1) d (h.set k (.inl (0, v.set j (.int z)))) 324 q (pm_fls k z y (Int32.ofNat N)) []) = _
    rw [pm_fi_eq, pm_fn_eq, hinc]
    refine pm_rw (pm_x_at pm_e324 rfl) ?_
    show pm_fn 5 (fun t => pm_x X n d (h.set k (.inl (0, v.set j (.int z)))) 324 t (pm_fls k z (Int32.ofNat (j + 1)) (Int32.ofNat N)) []) = _
    rw [pm_fn_eq]
    exact hn
theorem pm_fill_run (X : List (Nat × List Value)) (d k : Nat) (z : Int32) (h : pm_H) (v : List Value) (hk : h[k]? = some (.inl (0, v))) (hv : v.length ≤ 60000) : ∃ n, pm_x X n d h 324 0 (pm_lay [.ref (16 + k), .int z] 4) [] = some (h.set k (.inl (0, List.replicate v.length (.int z))), .inl none) := by
  obtain ⟨n, hn⟩ := pm_fill_loop X d k z v.length hv v.length 0 h v (by omega) hk rfl (fun i hi => by omega)
  refine ⟨n + 5, ?_⟩
  show pm_x X (n + 5) d h 324 0 [some (.ref (16 + k)), some (.int z), none, none] [] = _
  refine pm_rw (pm_x_at pm_e324 rfl) ?_
  show pm_fn (0 + 1) (fun q => pm_x X (n + 4) d h 324 q [some (.ref (16 + k)), some (.int z), none, none] [.int (Int32.ofInt 0)]) = _
  rw [pm_fn_eq]
  refine pm_rw (pm_x_at pm_e324 rfl) ?_
  show pm_fi (Int32.ofInt 0) (fun y => pm_fn (1 + 1) fun q => pm_x X (n + 3) d h 324 q [some (.ref (16 + k)), some (.int z), some (.int y), none] []) = _
  rw [pm_fi_eq, pm_fn_eq]
  refine pm_rw (pm_x_at pm_e324 rfl) ?_
  show pm_fn (2 + 1) (fun q => pm_x X (n + 2) d h 324 q [some (.ref (16 + k)), some (.int z), some (.int (Int32.ofInt 0)), none] [.ref (16 + k)]) = _
  rw [pm_fn_eq]
  refine pm_rw (pm_x_at pm_e324 rfl) ?_
  show pm_gLen X (pm_x X (n + 1)) d h 324 14 3 1 [some (.ref (16 + k)), some (.int z), some (.int (Int32.ofInt 0)), none] [.ref (16 + k)] = _
  have hrow : pm_row X h (16 + k) = some (0, v) := by
    unfold pm_row
    have : Nat.blt (16 + k) 16 = false := by
      cases hb : Nat.blt (16 + k) 16 with
      | false => rfl
      | true => have := pm_blt hb; omega
    rw [this, cond_false, pm_nth_eq, Nat.add_sub_cancel_left, hk]
  unfold pm_gLen
  dsimp only
  rw [hrow]
  show pm_fn (pm_len v) (fun z' => pm_fn (3 + 1) fun q => pm_x X (n + 1) d h 324 q [some (.ref (16 + k)), some (.int z), some (.int (Int32.ofInt 0)), none] [.int (Int32.ofNat z')]) = _
  rw [pm_fn_eq, pm_fn_eq, pm_len_eq]
  refine pm_rw (pm_x_at pm_e324 rfl) ?_
  show pm_fi (Int32.ofNat v.length) (fun y => pm_fn (4 + 1) fun q => pm_x X n d h 324 q [some (.ref (16 + k)), some (.int z), some (.int (Int32.ofInt 0)), some (.int y)] []) = _
  rw [pm_fi_eq, pm_fn_eq]
  exact hn
/-- the contract of Arrays.fill holds -/
theorem pm_fill {l : Launch} {X : List (Nat × List Value)} (hX : pm_X0 X) : pm_Fill l X := by
  intro D cA A ad y e h k v z hy he hk hv
  obtain ⟨n, hn⟩ := pm_fill_run X 0 k z h v hk hv
  have ee : e = (2, 4, 14, 4, pmc_324) := Option.some.inj (he.symm.trans pm_e324)
  have q3 : pm_get pm_kdt 324 = some 2 := by decide +kernel
  obtain ⟨y3, e3, ps, r1, r2, r3⟩ := pm_head q3
  have ey : y3 = y := Option.some.inj (r1.symm.trans hy)
  have ee3 : e3 = e := Option.some.inj (r2.symm.trans he)
  subst ey; subst ee3
  obtain ⟨w1, w2, w3, w4, w5, w6, -⟩ := pm_hd_ok r3 (Or.inr (Or.inl rfl))
  have hle := pm_mono X n _ _ _ _ _ _ _ hn
  refine pm_MtOf (m := 324) rfl rfl rfl rfl he hy w6 w3 w4 (by rw [ee]; rfl) (fun {p e s mid args below meth c Q} F9 hA9 hend9 => ?_)
  rw [← show (pm_lay [.ref (16 + k), .int z] 4) = pm_lay [.ref (16 + k), .int z] e3.2.1 by rw [ee]]
  exact pm_FL hX n (Or.inl rfl) (by rw [ee]; decide) F9 hA9 ⟨by have := hle.1; show _ ≤ (_ - h.length) + h.length; dsimp only at this ⊢; omega, by have := hle.2; show _ ≤ (_ - pm_slt h) + pm_slt h; dsimp only at this ⊢; omega⟩ (fun H1 locs1 cells1 slots1 pc1 ls1 st1 q1 q2 _ => hend9 H1 locs1 cells1 slots1 pc1 ls1 st1 q1 q2) hn
end
section
/-! a method whose run ends with a throw -/
abbrev pm_nse : String := "java/util/NoSuchElementException"
abbrev pm_nsn : List String := ["java/lang/RuntimeException", "java/lang/Exception"]
theorem pm_thw : (vx_at0 (pm_nm 11) 184 pm_nse pm_nsn).all (fun w => vx_ot w && (goodWord w || (match w with
  | .declares _ => true
  | .castable _ _ => true
  | _ => false)) && decide (w ∈ tables_1)) = true := by decide +kernel
theorem pm_th_at {args : Array Value} {s : State} (hw : ∀ w ∈ pm_W0, w.before args s = true) (hN : ∀ w ∈ pm_NW, va_Nw w s) : ∀ w ∈ vx_at0 (pm_nm 11) 184 pm_nse pm_nsn, w.before args s = true := by
  intro w h
  have h1 := List.all_eq_true.mp pm_thw w h
  rw [Bool.and_eq_true, Bool.and_eq_true, decide_eq_true_eq, Bool.or_eq_true] at h1
  obtain ⟨⟨-, h2⟩, h3⟩ := h1
  rcases h2 with h2 | h2
  · exact hw w (pm_W0_of h3 h2)
  · split at h2
    · exact va_Nw.use rfl (hN _ (List.mem_filter.mpr ⟨h3, rfl⟩))
    · exact va_Nw.use rfl (hN _ (List.mem_filter.mpr ⟨h3, rfl⟩))
    · cases h2
theorem pm_th_ot : ∀ w ∈ vx_at0 (pm_nm 11) 184 pm_nse pm_nsn, vx_ot w = true := by
  intro w h
  have h1 := List.all_eq_true.mp pm_thw w h
  rw [Bool.and_eq_true, Bool.and_eq_true] at h1
  exact h1.1.1
/-- what a throw leaves: the picture in a heap that the throw has only grown -/
def pm_XC (D : va_G) (cA : Nat → ClassId) (A : Nat → Prop) (ad : Nat → Nat) (h1 : pm_H) : String → State → State → Prop := fun E st t => E = pm_nse ∧ pm_scH h1 = true ∧ ∃ H : Heap, pm_rel D cA A ad h1 H ∧ H.size ≤ t.heap.size ∧ (∀ q : Nat, q < H.size → t.heap[q]? = H[q]?) ∧ va_F A st t
/-- from the frame to the contract of a method that throws -/
theorem pm_MtX {l : Launch} (hlt : l.stackTraces = false) {X : List (Nat × List Value)} (hX : pm_X0 X) {D : va_G} {cA : Nat → ClassId} {A : Nat → Prop} {ad : Nat → Nat} {m n d : Nat} {E : pm_M} {y : pm_Hd} {h h1 : pm_H} {As : List Value} {u : Unit} (he : pm_ent m = some E) (hy : pm_get pm_hds m = some y) (hpl : Jvm.plainName y.1.cls = true) (hcl : y.1.cls = pm_nm E.2.2.1) (hown : E.2.2.1 ≠ 13) (hlay : (pm_lay As E.2.1).length = E.2.1)
    (hrun : pm_x X n d h m 0 (pm_lay As E.2.1) [] = some (h1, .inr u)) {Qc : Array Value → State → Outcome → State → Prop} :
    vx_Met l y.1 (pm_wsm y E) (pm_rm d (h1.length - h.length + 1) (pm_slt h1 - pm_slt h + 6)) (pm_Pc D cA A ad X h As) Qc (pm_XC D cA A ad h1) (h1.length - h.length + 1) (pm_slt h1 - pm_slt h + 6) A := by
  refine vx_ofW (cc := pm_byt y.2.1) (maxL := E.2.1) (ret := y.2.2) hpl rfl ?_
  intro p e s mid args below meth c s₁ B hml htab hv
  obtain ⟨rfl, hCx, hrel, hAs⟩ := hv
  have hts := atoms_spec (ws := pm_wsm y E) B.pre
  have hownc : s.vm.findClass y.1.cls = some mid.cls := findClass_of_methodNamed B.named
  have hlocks := B.notSynchronized
  have hin : meth.name = y.1.name := (name_of_methodNamed B.named B.method).1
  rw [lg_entry_eq]
  rw [hcl] at hownc
  have hw0 : ∀ w ∈ pm_W0, w.before (As.map (pm_rv ad)).toArray s = true := fun w hw => hts w (List.mem_cons_of_mem _ hw)
  have F : pm_Fr p s mid (As.map (pm_rv ad)).toArray meth c D cA A ad X m E y := ⟨B.exec, B.bytes, hml, hownc, hw0, hCx, hin, he, hy, hAs⟩
  have hA0 : pm_At s D cA A ad m h.length (pm_slt h) 0 h s.heap [] 0 0 := ⟨hrel, va_S.rf, Or.inr ⟨rfl, rfl⟩, by omega, by omega⟩
  have hle := pm_mono X n _ _ _ _ _ _ _ hrun
  have l1 : h.length ≤ h1.length := hle.1
  have l2 : pm_slt h ≤ pm_slt h1 := hle.2
  refine pm_FL hX n (R := pm_rm d (h1.length - h.length + 1) (pm_slt h1 - pm_slt h + 6)) (o := (h1, .inr u)) (Or.inr ⟨pm_fill hX, Nat.le_refl _, Nat.le_refl _⟩) hown F hA0 ⟨by show h1.length ≤ (h1.length - h.length + 1) + h.length; omega, by show pm_slt h1 ≤ (pm_slt h1 - pm_slt h + 6) + pm_slt h; omega⟩ (fun H1 locs1 cells1 slots1 pc1 ls1 st1 hA1 hE hsc => ?_) hrun _ (pm_entry hlay)
  intro LS hl
  obtain ⟨hst, ix, b, z, w, d0, hg, h11, d3, d4, d7⟩ := hE
  subst hst
  obtain ⟨i, hi⟩ := pm_link hg
  have hi : decide (tables_1[i]? = some (.classLink (pm_nm E.2.2.1) ix pm_nse)) = true := hi
  rw [decide_eq_true_eq] at hi
  have hk := hw0 _ (pm_W0_at i hi rfl)
  rw [h11] at hk hownc
  obtain ⟨hrel1, hS1, -, a4, a5⟩ := hA1
  have a4 : cells1 + h.length = h1.length + 0 := a4
  have a5 : slots1 + pm_slt h = pm_slt h1 + 6 * 0 := a5
  refine vx_throw0 (mc := h1.length - h.length + 1) (ms := pm_slt h1 - pm_slt h + 6) (A := A) B.exec B.bytes hlt (own := pm_nm 11) (cls := pm_nse) (names := pm_nsn) (ik := ix) (ic := 184) hownc (by decide +kernel) (by decide +kernel) hk (hw0 _ (pm_W0_of (by decide +kernel) rfl)) (pm_th_at hw0 hCx.2.1) ?_ hCx.2.2.2.2.2.2.1 hCx.2.2.2.2.2.2.2 hS1 (hl.1.trans hml.symm) d0 d3 d4 d7 (fun x hx => (htab x hx).elim) ?_ ?_ ?_ ?_ hlocks ?_ hS1.2.2 ?_ ?_
  · intro w hw9
    rcases List.mem_cons.mp hw9 with rfl | hw9
    · rfl
    · rcases List.mem_cons.mp hw9 with rfl | hw9
      · rfl
      · exact pm_th_ot w hw9
  · show 2 + 3 < d + 10
    omega
  · show 0 + (13 * (2 + 1) + 42) ≤ 100 * d + 200
    omega
  · show cells1 + 1 ≤ h1.length - h.length + 1
    omega
  · show slots1 + 6 ≤ pm_slt h1 - pm_slt h + 6
    omega
  · intro t ht hz hq
    have hF1 := hS1
    exact ⟨rfl, hsc u rfl, H1, hrel1, hz, hq, Nat.le_trans hS1.1 hz, fun q g1 g2 => (hq q (Nat.lt_of_lt_of_le g1 hS1.1)).trans (hS1.2.1 q g1 g2)⟩
  · omega
  · omega
end
section
/-! behind a caught exception: the heap has a cell that the picture lacks; the places to come get other addresses -/
def pm_sw (ad : Nat → Nat) (n z : Nat) : Nat → Nat := fun a => if a < n then ad a else z + (a - n)
theorem pm_sw_lt {ad : Nat → Nat} {n z a : Nat} (h : a < n) : pm_sw ad n z a = ad a := if_pos h
theorem pm_sw_ge (ad : Nat → Nat) (n z j : Nat) : pm_sw ad n z (n + j) = z + j := by
  unfold pm_sw
  rw [if_neg (by omega)]
  omega
theorem pm_rv_sw {ad ad' : Nat → Nat} {n : Nat} (hs : ∀ a, a < n → ad' a = ad a) {v : Value} (h : pm_scv n v = true) : pm_rv ad' v = pm_rv ad v := by
  cases v with
  | ref a =>
    have h : Nat.blt a n = true := h
    show Value.ref (ad' a) = .ref (ad a)
    rw [hs a (pm_blt h)]
  | int x => rfl
  | long x => rfl
  | float x => rfl
  | double x => rfl
  | null => rfl
  | retAddr x => rfl
theorem pm_rvs_sw {ad ad' : Nat → Nat} {n : Nat} (hs : ∀ a, a < n → ad' a = ad a) {vs : List Value} (h : pm_all (pm_scv n) vs = true) : vs.map (pm_rv ad') = vs.map (pm_rv ad) := by
  rw [pm_all_eq, List.all_eq_true] at h
  exact List.map_congr_left fun v hv => pm_rv_sw hs (h v hv)
theorem pm_qv_sw {ad ad' : Nat → Nat} {n : Nat} (hs : ∀ a, a < n → ad' a = ad a) {v : Value} (h : pm_scv n v = true) : pm_qv ad' v = pm_qv ad v := by
  cases v with
  | ref a =>
    have h : Nat.blt a n = true := h
    show some (ad' a) = some (ad a)
    rw [hs a (pm_blt h)]
  | int x => rfl
  | long x => rfl
  | float x => rfl
  | double x => rfl
  | null => rfl
  | retAddr x => rfl
theorem pm_re_sw {ad ad' : Nat → Nat} {cA : Nat → ClassId} {n : Nat} (hs : ∀ a, a < n → ad' a = ad a) {c : pm_C} (h : pm_scc n c = true) : pm_re ad' cA c = pm_re ad cA c := by
  cases c with
  | inl q =>
    obtain ⟨t, l⟩ := q
    show Sum.inl (cA t, l.length, pm_ct ad' t l) = Sum.inl (cA t, l.length, pm_ct ad t l)
    have h : cond (Nat.blt t 5) true (pm_all (pm_scv n) l) = true := h
    cases ht : Nat.blt t 5 with
    | true =>
      have ht := pm_blt ht
      by_cases h3 : t = 3
      · subst h3
        rw [pm_ct3, pm_ct3]
      · rw [pm_ctI _ _ h3 ht, pm_ctI _ _ h3 ht]
    | false =>
      rw [ht, cond_false, pm_all_eq, List.all_eq_true] at h
      have h5 : 5 ≤ t := by
        cases Nat.lt_or_ge t 5 with
        | inl g => rw [show Nat.blt t 5 = true from Nat.ble_eq_true_of_le g] at ht; cases ht
        | inr g => exact g
      rw [pm_ctQ _ _ h5, pm_ctQ _ _ h5]
      have e : (fun j => pm_qv ad' (l.getD j .null)) = fun j => pm_qv ad (l.getD j .null) := by
        funext j
        rw [List.getD_eq_getElem?_getD]
        cases hj : l[j]? with
        | none => rfl
        | some v => exact pm_qv_sw hs (h v (List.mem_of_getElem? hj))
      rw [e]
  | inr q =>
    obtain ⟨ci, fs⟩ := q
    show Sum.inr (ci, fs.map (pm_rv ad')) = Sum.inr (ci, fs.map (pm_rv ad))
    rw [pm_rvs_sw hs h]
theorem pm_ws_sw {ad ad' : Nat → Nat} {cA : Nat → ClassId} {h : pm_H} (hs : ∀ a, a < 16 + h.length → ad' a = ad a) (hsc : pm_scH h = true) : pm_ws ad' cA h = pm_ws ad cA h := by
  unfold pm_scH at hsc
  rw [pm_all_eq, List.all_eq_true, pm_len_eq] at hsc
  apply List.ext_getElem?
  intro k
  rw [pm_ws_get, pm_ws_get]
  cases hk : h[k]? with
  | none => rfl
  | some c =>
    show some (ad' (16 + k), pm_re ad' cA c) = some (ad (16 + k), pm_re ad cA c)
    rw [hs (16 + k) (by have := (List.getElem?_eq_some_iff.mp hk).1; omega), pm_re_sw hs (hsc c (List.mem_of_getElem? hk))]
theorem pm_rel.grown {D : va_G} {cA : Nat → ClassId} {A : Nat → Prop} {ad : Nat → Nat} {h : pm_H} {H H1 : Heap} (hrel : pm_rel D cA A ad h H) (hsc : pm_scH h = true) (hq : ∀ q : Nat, q < H.size → H1[q]? = H[q]?) : pm_rel D cA A (pm_sw ad (16 + h.length) H1.size) h H1 := by
  obtain ⟨h1, h2, h3⟩ := hrel
  have e := pm_ws_sw (cA := cA) (ad := ad) (ad' := pm_sw ad (16 + h.length) H1.size) (fun a ha => pm_sw_lt ha) hsc
  refine ⟨?_, by rw [e]; exact h2, fun j => pm_sw_ge _ _ _ _⟩
  rw [e]
  exact h1.kept fun k q hk => hq _ (vx_lt h1 hk)
theorem pm_strs_lt : pm_strs.all (fun q => Nat.blt q.2.2.2 16) = true := by decide +kernel
theorem pm_Cx.sw {D : va_G} {cA : Nat → ClassId} {A : Nat → Prop} {ad ad' : Nat → Nat} {X : List (Nat × List Value)} {U : State} (h : pm_Cx D cA A ad X U) (hs : ∀ a, a < 16 → ad' a = ad a) : pm_Cx D cA A ad' X U := by
  obtain ⟨h1, h2, h3, h4, h5, h6, h7, h8⟩ := h
  refine ⟨h1, h2, h3, fun a l ha hl => ?_, fun a ha hb => ?_, fun q hq => ?_, h7, h8⟩
  · have := h4 a l ha hl
    unfold pm_ex at this ⊢
    rw [hs a ha]
    exact this
  · rw [hs a (by omega)]
    exact h5 a ha hb
  · rw [hs _ (pm_blt (List.all_eq_true.mp pm_strs_lt q hq))]
    exact h6 q hq
end
section
/-! the law's helpers: a call that may throw, caught here -/
/-- a helper: its handler's place, the local that it stores to, the store's length -/
def pm_hpt : List (Nat × Nat × Nat × Nat) := [(310, 17, 6, 2), (311, 16, 6, 2), (312, 16, 6, 2), (313, 14, 5, 2), (314, 16, 6, 2), (315, 16, 6, 2), (316, 14, 5, 2), (317, 16, 6, 2), (318, 12, 4, 2), (319, 12, 4, 2), (320, 11, 3, 1), (321, 14, 5, 2), (322, 16, 6, 2), (323, 14, 5, 2)]
noncomputable def pm_hpk (q : Nat × Nat × Nat × Nat) : Bool := match pm_ent q.1, pm_get pm_hds q.1 with
  | some e, some y => (match tables_1[y.2.1]? with
    | some (.codeWith y2 _ l2 r2 hh) => decide (y2 = y.1) && (Nat.beq l2 e.2.1 && (decide (r2 = y.2.2) && (decide (y.2.2 = some .int) && decide (hh = [(0, q.2.1 - 3, q.2.1, 13)]))))
    | _ => false) && ((match pm_get e.2.2.2.2 q.2.1 with
    | some (.astore k, 2) => Nat.beq k q.2.2.1 && Nat.beq q.2.2.2 2
    | some (.astore_n k, 1) => Nat.beq k.val q.2.2.1 && Nat.beq q.2.2.2 1
    | _ => false) && (decide (pm_get e.2.2.2.2 (q.2.1 + q.2.2.2) = some (.iconst 1, 1)) && (decide (pm_get e.2.2.2.2 (q.2.1 + q.2.2.2 + 1) = some (.ireturn, 1)) && (Nat.blt q.2.2.1 e.2.1 && (Nat.beq e.2.2.1 13 && (Nat.beq e.2.2.2.1 0 && (Nat.ble e.2.1 80 && (Nat.beq y.2.1 99999 == false && (decide (y.1.cls = "RiverWageLaw") && decide ((parseMethodDescriptor y.1.desc).map (fun d => d.parameters.length) = some e.1))))))))))
  | _, _ => false
theorem pm_hpks : pm_hpt.all pm_hpk = true := by decide +kernel
theorem pm_hpa : pm_kdt.all (fun c => c.all (fun q => !Nat.beq q.2 14 || pm_hpt.any (fun r => Nat.beq r.1 q.1))) = true := by decide +kernel
theorem pm_hpw : pm_hpt.all (fun q => match pm_get pm_hds q.1 with
  | some y => decide (Cond.static y.1 ∈ tables_1)
  | none => false) = true := by decide +kernel
theorem pm_hpc (r : Nat × Nat × Nat × Nat) : goodWord (.codeWith ⟨"", "", ""⟩ ⟨#[]⟩ 0 none [r]) = true := rfl
theorem pm_hpl : Cond.classLink "RiverWageLaw" 13 pm_nse ∈ tables_1 ∧ Cond.castable pm_nse pm_nse ∈ tables_1 ∧ Cond.initialized "RiverWageLaw" ∈ lw_tbl := by decide +kernel
end
section
/-! the helpers' call that throws -/
theorem pm_no_nest : tables_1.all (fun w => match w with
  | .methodLinkNest o _ _ _ => decide (o ≠ "RiverWageLaw")
  | _ => true) = true := by decide +kernel
section PmX
variable {p : Program} {l : Launch} {e : Env} {R : Room} {s : State} {mid : MethodId} {args : Array Value} {below : List Frame} {meth : Method} {c : Code} {H : Heap} {locs : List Loc} {cells slots : Nat} {Q : State → Prop}
variable {D : va_G} {cA : Nat → ClassId} {A : Nat → Prop} {ad : Nat → Nat} {X : List (Nat × List Value)} {m : Nat} {E : pm_M} {y : pm_Hd} {hb sb : Nat} {h : pm_H}
variable {d pc n : Nat} {ls : pm_L} {st : List Value}
/-- a virtual call that throws: the thrown thing lies over the frame -/
theorem pm_jThrown {ix m' na ci d' : Nat} {As rest : List Value} {h1 : pm_H} {u : Unit} (hlt : l.stackTraces = false) (hX : pm_X0 X) (F : pm_Fr p s mid args meth c D cA A ad X m E y) (hE13 : E.2.2.1 = 13) (hA : pm_At s D cA A ad m hb sb 0 h H locs cells slots)
    (hg : pm_get (pm_lnk E.2.2.1) ix = some (1, m', na, ci)) (hd1 : decode (pm_byt y.2.1) pc = .ok (.invokevirtual ix, 3)) (hpop : pm_pop na st [] = some (As, rest)) (hcat : pm_cat8 rest = true) (hrcv : ∃ a r fs, As = .ref a :: r ∧ pm_cell h a = some (.inr (ci, fs)))
    (hR : d' + 11 ≤ R.frames ∧ 100 * d' + 300 ≤ R.locals) (hf : h1.length + 1 ≤ R.cells + hb ∧ pm_slt h1 + 6 ≤ R.slots + sb) {e' : pm_M} (he' : pm_ent m' = some e') (hlay : (pm_lay As e'.2.1).length = e'.2.1) (hrun : pm_x X n d' h m' 0 (pm_lay As e'.2.1) [] = some (h1, .inr u))
    (kk : ∀ (H1 Hm : Heap) (locs1 : List Loc) (q : Addr) (ce : Cell) (LS : Array Slot), pm_lr ad E.2.1 ls LS → pm_scH h1 = true → pm_rel D cA A ad h1 Hm → Hm.size ≤ H1.size → (∀ q : Nat, q < Hm.size → H1[q]? = Hm[q]?) → va_S A s.heap H1 locs1 → H1[q]? = some ce → ce.vm = .none → s.vm.findClass pm_nse = some ce.cls →
      vx_W p l e R s mid args below meth c H1 locs1 (cells + (h1.length - h.length + 1)) (slots + (pm_slt h1 - pm_slt h + 6)) Q (F0 mid pc LS (rest.map (pm_rv ad))) q) :
    pm_J p l e R s mid args below meth c H locs cells slots Q ad E.2.1 pc ls st := by
  intro LS hl
  obtain ⟨y3, e3, q1, q2, q3, q4, q5, q6⟩ := pm_lkM hg (Or.inl rfl)
  have ee : e3 = e' := Option.some.inj (q2.symm.trans he')
  subst ee
  obtain ⟨y4, e4, ps, r1, r2, r3⟩ := pm_head q3
  have ey : y4 = y3 := Option.some.inj (r1.symm.trans q1)
  have ee : e4 = e3 := Option.some.inj (r2.symm.trans q2)
  subst ey; subst ee
  obtain ⟨w1, w2, w3, w4, w5, w6, w7, w8, w9, w10⟩ := pm_hd_ok r3 (Or.inl rfl)
  have hM := pm_MtX (D := D) (cA := cA) (A := A) (ad := ad) (Qc := fun _ _ _ _ => False) hlt hX q2 q1 w6 w3 (pm_own q3 q2 (Or.inl rfl)) hlay hrun
  have hle := pm_mono X n _ _ _ _ _ _ _ hrun
  have l1 : h.length ≤ h1.length := hle.1
  have l2 : pm_slt h ≤ pm_slt h1 := hle.2
  have hpre := pm_pre (As := As) F hA
  obtain ⟨hx, hbc, hml, hown, hw, hCx, hnm, he, hyy, hAs⟩ := F
  have hS : CallFix p mid c (pm_byt y.2.1) E.2.1 s args pm_W0 (pm_nm E.2.2.1) := ⟨hx, hbc, hml, hown, hw⟩
  have hG : GoodIn pm_W0 (pm_wsm y4 e4) := pm_good fun w hw9 => by
    rcases List.mem_cons.mp hw9 with rfl | hw9
    · exact w1
    · exact hw9
  obtain ⟨a, r, fs, rfl, hc⟩ := hrcv
  obtain ⟨v1, v2, v3⟩ := w8 rfl
  obtain ⟨hst, hlen⟩ := pm_pop_some hpop
  obtain ⟨k0, rfl, -, hk0⟩ := pm_cell_some hc
  obtain ⟨rr, hrr, -⟩ := hA.1.1 k0 _ (pm_ws_at hk0)
  have hnmc : rr.1 = y4.1.cls := by rw [pm_cl_nm hrr, w3, q5 (Or.inl rfl)]
  have hrec := va_recv hCx.1 hA.1.1 hrr (pm_ws_at hk0)
  rw [hnmc] at hrec
  have hn : (r.map (pm_rv ad)).length = e4.1 - 1 := by
    have : r.length + 1 = na := hlen
    rw [List.length_map]; omega
  have hdesc : (parseMethodDescriptor y4.1.desc).map (fun d => d.parameters.length) = some (e4.1 - 1) := by
    cases hpd : parseMethodDescriptor y4.1.desc with
    | none => rw [hpd] at v3; cases v3
    | some sg =>
      rw [hpd] at v3
      have : sg.parameters.length + 1 = e4.1 := Option.some.inj v3
      show some sg.parameters.length = some (e4.1 - 1)
      rw [← this]; rfl
  have hst2 : (F0 mid pc LS (st.map (pm_rv ad))).stack = (r.map (pm_rv ad)).reverse ++ .ref (ad (16 + k0)) :: rest.map (pm_rv ad) := by
    show st.map (pm_rv ad) = _
    rw [hst, List.map_append, List.map_reverse, List.map_cons, List.reverse_cons, List.append_assoc]
    rfl
  have hW8 : 2 * (F0 mid pc LS (st.map (pm_rv ad))).monitorRoom + ((rest.map (pm_rv ad)).map fun v => v.category).sum ≤ 8 := lv_room (pm_cat8_rv hcat)
  have hlk : Cond.methodLink (pm_nm E.2.2.1) ix y4.1 ∈ tables_1 := by
    rcases q6 with q6 | q6
    · exact q6
    · exfalso
      have h9 := List.all_eq_true.mp pm_no_nest _ q6
      rw [hE13] at h9
      cases h9
  have a4 : cells + hb = h.length + 0 := hA.2.2.2.1
  have a5 : slots + sb = pm_slt h + 6 * 0 := hA.2.2.2.2
  have hRR : (pm_rm d' (h1.length - h.length + 1) (pm_slt h1 - pm_slt h + 6)).frames + 1 ≤ R.frames ∧ 8 + (e4.2.1 + 11) + (pm_rm d' (h1.length - h.length + 1) (pm_slt h1 - pm_slt h + 6)).locals ≤ R.locals := ⟨hR.1, by show 8 + (e4.2.1 + 11) + (100 * d' + 200) ≤ R.locals; omega⟩
  have hV := vx_runV (l := l) (e := e) (below := below) (meth := meth) (locs := locs) (cells := cells) (slots := slots) hS hM ⟨callB_of (e4.1 - 1) hw hG rfl rfl rfl (hw _ w2) (hw _ (pm_W0_of hlk rfl)) ⟨w7.1, w7.2, hdesc⟩ hRR, hw _ v1, hw _ v2⟩ ⟨pm_Pc_blind, hrec, hpre⟩ rfl hn hl.1 hst2 hW8 hd1 ⟨by omega, by omega⟩
  intro T hT X9
  rcases hV T hT X9 with ⟨v, st₀, t, T', L, h0, X', hL, e1, e2, hF, st⟩ | ⟨q, st₀, t, T', L, Ex, ce, h0, X', hL, e1, e2, ⟨rfl, hsc, Hm, hrel, hz, hq, hF⟩, hce, hcv, hcl, st⟩
  · exact hF.elim
  · obtain ⟨s1, s2, s3⟩ := hA.2.1
    obtain ⟨t2, b1, b2⟩ := kk T'.heap Hm (locs ++ L) q ce LS hl hsc hrel (by rw [e1]; exact hz) (fun q g => by rw [e1]; exact hq q g) ⟨by rw [e1]; have g9 := hF.1; rw [h0] at g9; omega, fun q g1 g2 => by
      rw [e1, hF.2 q (by rw [h0]; exact Nat.lt_of_lt_of_le g1 s1) g2, h0]
      exact s2 q g1 g2, fun q hq => by
      rcases List.mem_append.mp hq with g | g
      · exact s3 q g
      · exact hL q g⟩ (by rw [e1]; exact hce) hcv hcl T' rfl X'
    exact ⟨t2, st.trans b1, b2⟩
end PmX
end
section
/-! a helper's frame: its run -/
theorem pm_call_hnd {ih : pm_I} {d : Nat} {h : pm_H} {m pc : Nat} {ls : pm_L} {m' : Nat} {As rest : List Value} {o : pm_H × (Option Value ⊕ Unit)} (hg : pm_call ih d h m pc ls m' As rest true = some o) : pm_call ih d h m pc ls m' As rest false = some o ∨ ∃ d' e' h1 u, d = d' + 1 ∧ pm_ent m' = some e' ∧ (pm_lay As e'.2.1).length = e'.2.1 ∧ ih d' h m' 0 (pm_lay As e'.2.1) [] = some (h1, .inr u) ∧ o = (h1, .inl (some (.int 1))) := by
  unfold pm_call at hg ⊢
  cases d with
  | zero => cases hg
  | succ d' =>
    dsimp only at hg ⊢
    cases he : pm_ent m' with
    | none => rw [he] at hg; cases hg
    | some e' =>
      rw [he] at hg
      dsimp only at hg ⊢
      cases hb : Nat.beq (pm_len (pm_lay As e'.2.1)) e'.2.1 with
      | false => rw [hb] at hg; cases hg
      | true =>
        rw [hb, cond_true] at hg
        rw [cond_true]
        rw [pm_len_eq] at hb
        cases hr : ih d' h m' 0 (pm_lay As e'.2.1) [] with
        | none => rw [hr] at hg; cases hg
        | some w =>
          obtain ⟨h1, v⟩ := w
          cases v with
          | inl v => rw [hr] at hg; exact Or.inl hg
          | inr u =>
            rw [hr] at hg
            refine Or.inr ⟨d', e', h1, u, rfl, rfl, Nat.eq_of_beq_eq_true hb, hr, ?_⟩
            exact (Option.some.inj hg).symm
set_option maxHeartbeats 2000000 in
theorem pm_FH {l : Launch} (hlt : l.stackTraces = false) {X : List (Nat × List Value)} (hX : pm_X0 X) {D : va_G} {cA : Nat → ClassId} {A : Nat → Prop} {ad : Nat → Nat} : ∀ (n : Nat) {p : Program} {e : Env} {R : Room} {s : State} {mid : MethodId} {args : Array Value} {below : List Frame} {meth : Method} {c : Code} {H : Heap} {locs : List Loc} {cells slots : Nat} {Q : State → Prop} {m : Nat} {E : pm_M} {y : pm_Hd} {hb sb : Nat} {h : pm_H} {d pc : Nat} {ls : pm_L} {st : List Value} {o : pm_H × (Option Value ⊕ Unit)},
    (d + 10 ≤ R.frames ∧ 100 * d + 200 ≤ R.locals) → E.2.2.1 = 13 → m ≠ 309 → (∀ pc ix len, pm_get E.2.2.2.2 pc ≠ some (.invokestatic ix, len)) → pm_Fr p s mid args meth c D cA A ad X m E y → pm_At s D cA A ad m hb sb 0 h H locs cells slots → (o.1.length + 1 ≤ R.cells + hb ∧ pm_slt o.1 + 6 ≤ R.slots + sb) →
    (∀ H1 locs1 cells1 slots1 pc1 ls1 st1, pm_At s D cA A ad m hb sb 0 o.1 H1 locs1 cells1 slots1 → pm_End y E o.2 pc1 st1 → (∀ z, o.2 = .inr z → pm_scH o.1 = true) → pm_J p l e R s mid args below meth c H1 locs1 cells1 slots1 Q ad E.2.1 pc1 ls1 st1) →
    (o.2 = .inl (some (.int 1)) → ∀ (pc1 ix : Nat) (ls1 : pm_L) (rest1 : List Value) (H1 Hm : Heap) (locs1 : List Loc) (cells1 slots1 : Nat) (q : Addr) (ce : Cell) (LS : Array Slot), decode (pm_byt y.2.1) pc1 = .ok (.invokevirtual ix, 3) → pm_get E.2.2.2.2 pc1 = some (.invokevirtual ix, 3) → pm_lr ad E.2.1 ls1 LS → pm_scH o.1 = true → pm_rel D cA A ad o.1 Hm → Hm.size ≤ H1.size → (∀ q : Nat, q < Hm.size → H1[q]? = Hm[q]?) → va_S A s.heap H1 locs1 → H1[q]? = some ce → ce.vm = .none → s.vm.findClass pm_nse = some ce.cls → cells1 + hb = o.1.length + 1 → slots1 + sb = pm_slt o.1 + 6 → vx_W p l e R s mid args below meth c H1 locs1 cells1 slots1 Q (F0 mid pc1 LS rest1) q) →
    pm_x X n d h m pc ls st = some o → pm_J p l e R s mid args below meth c H locs cells slots Q ad E.2.1 pc ls st
  | 0, _, _, _, _, _, _, _, _, _, _, _, _, _, _, _, _, _, _, _, _, _, _, _, _, o, _, _, _, _, _, _, _, _, _, hr => nomatch (show (none : pm_R) = some o from hr)
  | n + 1, p, e, R, s, mid, args, below, meth, c, H, locs, cells, slots, Q, m, E, y, hb, sb, h, d, pc, ls, st, o, hR, hown, hm309, hns, F, hA, hfin, hend, hcat, hr => by
    have he := F.2.2.2.2.2.2.2.1
    have hy := F.2.2.2.2.2.2.2.2.1
    have hr : pm_F X (pm_x X n) d h m pc ls st = some o := hr
    unfold pm_F at hr
    rw [he] at hr
    dsimp only at hr
    split at hr
    · cases hr
    · rename_i q hq
      obtain ⟨i, len⟩ := q
      obtain ⟨k1, k2, k3⟩ := pm_code he hy hq
      have hroom : ∀ (h1 : pm_H) (q : Nat) (ls : pm_L) (st : List Value), pm_x X n d h1 m q ls st = some o → h1.length + 0 ≤ R.cells + hb ∧ pm_slt h1 + 6 * 0 ≤ R.slots + sb := by
        intro h1 q ls st hz
        have hm := pm_mono X n _ _ _ _ _ _ _ hz
        have m1 := hm.1
        have m2 := hm.2
        obtain ⟨f1, f2⟩ := hfin
        exact ⟨by omega, by omega⟩
      have hK : ∀ h1 H1 locs1 cells1 slots1 q ls st, pm_At s D cA A ad m hb sb 0 h1 H1 locs1 cells1 slots1 → pm_x X n d h1 m q ls st = some o → pm_J p l e R s mid args below meth c H1 locs1 cells1 slots1 Q ad E.2.1 q ls st :=
        fun h1 H1 locs1 cells1 slots1 q ls st hA1 hz => pm_FH hlt hX n hR hown hm309 hns F hA1 hfin hend hcat hz
      refine pm_one F hX hA k1 k2 k3 hroom hK (fun e1 e2 e3 => hend H locs cells slots pc ls st (by rw [e1]; exact hA) e2 (fun z hz => by rw [e1]; exact e3 z hz)) (fun how ix hi hlen hg => ?_) hr
      have hF : pm_Fill l X := pm_fill hX
      subst hlen
      unfold pm_gInv at hg
      split at hg
      · rename_i kind m' na ci hl
        have hd2 : how = 2 → decode (pm_byt y.2.1) pc = .ok (.invokestatic ix, 3) := by
          rintro rfl
          rcases hi with ⟨q, -⟩ | ⟨-, rfl⟩ | ⟨q, -⟩
          · cases q
          · exact k1
          · cases q
        have hd3 : how = 3 → decode (pm_byt y.2.1) pc = .ok (.invokespecial ix, 3) := by
          rintro rfl
          rcases hi with ⟨q, -⟩ | ⟨q, -⟩ | ⟨-, rfl⟩
          · cases q
          · cases q
          · exact k1
        have hd1 : how = 1 → decode (pm_byt y.2.1) pc = .ok (.invokevirtual ix, 3) := by
          rintro rfl
          rcases hi with ⟨-, rfl⟩ | ⟨q, -⟩ | ⟨q, -⟩
          · exact k1
          · cases q
          · cases q
        have hhow : how = 1 ∨ how = 2 ∨ how = 3 := by
          rcases hi with ⟨q, -⟩ | ⟨q, -⟩ | ⟨q, -⟩
          · exact Or.inl q
          · exact Or.inr (Or.inl q)
          · exact Or.inr (Or.inr q)
        cases hk : Nat.beq kind 12 with
        | true =>
          rw [hk, cond_true] at hg
          replace hg := pm_cond_true hg
          obtain ⟨hb1, hg⟩ := hg
          have hk := Nat.eq_of_beq_eq_true hk
          subst hk
          have hb1 := Nat.eq_of_beq_eq_true hb1
          refine pm_jPrim F hA hl hb1 ⟨hd2, hd3⟩ (Or.inl hm309) hR hroom (fun z k v r q g1 g2 g3 g4 g5 g6 g7 => ?_) hK hg
          subst g1; subst g7
          exact pm_jFill hF F hA hl (hd2 hb1) hR hroom g2 g3 g4 g5 hK g6
        | false =>
          rw [hk, cond_false] at hg
          split at hg
          · rename_i As rest hpop
            replace hg := pm_cond_true hg
            obtain ⟨hc8, hg⟩ := hg
            cases hkh : Nat.beq kind how with
            | true =>
              rw [hkh, cond_true] at hg
              have hkh := Nat.eq_of_beq_eq_true hkh
              subst hkh
              have hM : ∀ d' m' y' e' As h1 v, pm_get pm_hds m' = some y' → pm_ent m' = some e' → pm_get pm_kdt m' = some kind → As.length = e'.1 → (pm_lay As e'.2.1).length = e'.2.1 → pm_x X n d' h m' 0 (pm_lay As e'.2.1) [] = some (h1, .inl v) → pm_Mt l D cA A ad X y' e' d' h As h1 v := by
                intro d' m' y' e' As h1 v g1 g2 g3 g4 g5 g6
                obtain ⟨y3, e3, ps, r1, r2, r3⟩ := pm_head g3
                have ey : y3 = y' := Option.some.inj (r1.symm.trans g1)
                have ee : e3 = e' := Option.some.inj (r2.symm.trans g2)
                subst ey; subst ee
                obtain ⟨w1, w2, w3, w4, w5, w6, -⟩ := pm_hd_ok r3 hhow
                have hmn := pm_mono X n _ _ _ _ _ _ _ g6
                refine pm_MtOf (m := m') (rm := pm_rm d' (h1.length - h.length) (pm_slt h1 - pm_slt h)) rfl rfl rfl rfl g2 g1 w6 w3 w4 g5 (fun {p e s mid args below meth c Q} F9 hA9 hend9 => ?_)
                exact pm_FL hX n (Or.inr ⟨hF, Nat.le_refl _, Nat.le_refl _⟩) (pm_own g3 g2 hhow) F9 hA9 ⟨by have := hmn.1; show h1.length ≤ (h1.length - h.length) + h.length; omega, by have := hmn.2; show pm_slt h1 ≤ (pm_slt h1 - pm_slt h) + pm_slt h; omega⟩ (fun H1 locs1 cells1 slots1 pc1 ls1 st1 q1 q2 _ => hend9 H1 locs1 cells1 slots1 pc1 ls1 st1 q1 q2) g6
              have hmono : ∀ d' h0 m0 q ls st h1 v, pm_x X n d' h0 m0 q ls st = some (h1, v) → pm_le h0 h1 := fun d' h0 m0 q ls st h1 v hz => pm_mono X n _ _ _ _ _ _ _ hz
              rcases hhow with rfl | rfl | rfl
              · obtain ⟨a, r, fs, rfl, hcell, hg⟩ := pm_gC1 hg
                have e309 : Nat.beq m 309 = false := by
                  cases hz : Nat.beq m 309 with
                  | true => exact absurd (Nat.eq_of_beq_eq_true hz) hm309
                  | false => rfl
                rw [hown, e309] at hg
                have hg : pm_call (pm_x X n) d h m pc ls m' (.ref a :: r) rest true = some o := hg
                rcases pm_call_hnd hg with hg | ⟨d', e', h1, u, rfl, g1, g2, g3, rfl⟩
                rotate_left
                · have hmn := pm_mono X n _ _ _ _ _ _ _ g3
                  have m1 : h.length ≤ h1.length := hmn.1
                  have m2 : pm_slt h ≤ pm_slt h1 := hmn.2
                  have a4 : cells + hb = h.length + 0 := hA.2.2.2.1
                  have a5 : slots + sb = pm_slt h + 6 * 0 := hA.2.2.2.2
                  have hq1 : i = .invokevirtual ix := by
                    rcases hi with ⟨-, q⟩ | ⟨q, -⟩ | ⟨q, -⟩
                    · exact q
                    · cases q
                    · cases q
                  subst hq1
                  refine pm_jThrown hlt hX F hown hA hl k1 hpop hc8 ⟨a, r, fs, rfl, hcell⟩ ⟨by omega, by omega⟩ hfin g1 g2 g3 (fun H1 Hm locs1 q ce LS9 z1 z2 z3 z4 z5 z6 z7 z8 z9 => ?_)
                  exact hcat rfl pc ix ls _ H1 Hm locs1 (cells + (h1.length - h.length + 1)) (slots + (pm_slt h1 - pm_slt h + 6)) q ce LS9 k1 hq z1 z2 z3 z4 z5 z6 z7 z8 z9 (by show cells + (h1.length - h.length + 1) + hb = h1.length + 1; omega) (by show slots + (pm_slt h1 - pm_slt h + 6) + sb = pm_slt h1 + 6; omega)
                exact pm_jCall F hA hl (Or.inl rfl) ⟨hd1, hd2, hd3⟩ hpop hc8 (fun _ => ⟨a, r, fs, rfl, hcell⟩) (fun q => by cases q) hR hroom hmono hM hK hg
              · have hg : pm_call (pm_x X n) d h m pc ls m' As rest false = some o := hg
                exact pm_jCall F hA hl (Or.inr (Or.inl rfl)) ⟨hd1, hd2, hd3⟩ hpop hc8 (fun q => by cases q) (fun q => by cases q) hR hroom hmono hM hK hg
              · obtain ⟨a, r, rfl, hg⟩ := pm_gC3 hg
                exact pm_jCall F hA hl (Or.inr (Or.inr rfl)) ⟨hd1, hd2, hd3⟩ hpop hc8 (fun q => by cases q) (fun _ => ⟨a, r, rfl⟩) hR hroom hmono hM hK hg
            | false =>
              rw [hkh, cond_false] at hg
              replace hg := pm_cond_true hg
              obtain ⟨hb2, -⟩ := hg
              rw [Bool.and_eq_true, Bool.and_eq_true] at hb2
              have hh2 := Nat.eq_of_beq_eq_true hb2.2.1
              subst hh2
              exfalso
              rcases hi with ⟨q, -⟩ | ⟨-, q⟩ | ⟨q, -⟩
              · cases q
              · subst q
                exact hns pc ix 3 hq
              · cases q
          · cases hg
      · cases hg
end
section
/-! a helper's data, read out -/
theorem pm_hpv : pm_hpt.all (fun q => match pm_ent q.1 with
  | some e => e.2.2.2.2.all (fun c => c.all (fun r => match r.2.1 with
    | .invokevirtual _ => Nat.blt r.1 (q.2.1 - 3)
    | .invokestatic _ => false
    | _ => true))
  | none => false) = true := by decide +kernel
theorem pm_hpd {m : Nat} {E : pm_M} {y : pm_Hd} (hk : pm_get pm_kdt m = some 14) (he : pm_ent m = some E) (hy : pm_get pm_hds m = some y) : ∃ hp k ln : Nat, ∃ b : ByteArray, tables_1[y.2.1]? = some (.codeWith y.1 b E.2.1 y.2.2 [(0, hp - 3, hp, 13)]) ∧ pm_byt y.2.1 = b ∧ y.2.2 = some .int ∧
    ((ln = 2 ∧ pm_get E.2.2.2.2 hp = some (.astore k, 2)) ∨ (ln = 1 ∧ ∃ k', k'.val = k ∧ pm_get E.2.2.2.2 hp = some (.astore_n k', 1))) ∧ pm_get E.2.2.2.2 (hp + ln) = some (.iconst 1, 1) ∧ pm_get E.2.2.2.2 (hp + ln + 1) = some (.ireturn, 1) ∧ k < E.2.1 ∧ E.2.2.1 = 13 ∧ E.2.2.2.1 = 0 ∧ E.2.1 ≤ 80 ∧ y.1.cls = "RiverWageLaw" ∧ (parseMethodDescriptor y.1.desc).map (fun d => d.parameters.length) = some E.1 ∧ (∀ pc ix len, pm_get E.2.2.2.2 pc = some (.invokevirtual ix, len) → pc < hp - 3) ∧ (∀ pc ix len, pm_get E.2.2.2.2 pc ≠ some (.invokestatic ix, len)) ∧ Cond.static y.1 ∈ tables_1 := by
  obtain ⟨c, hc, hm⟩ := pm_get_mem hk
  have h1 := List.all_eq_true.mp (List.all_eq_true.mp pm_hpa c hc) _ hm
  have h1 : (false || pm_hpt.any (fun r => Nat.beq r.1 m)) = true := h1
  rw [Bool.false_or] at h1
  obtain ⟨r, hr, hrm⟩ := List.any_eq_true.mp h1
  have hrm := Nat.eq_of_beq_eq_true hrm
  have h2 := List.all_eq_true.mp pm_hpks r hr
  have h3 := List.all_eq_true.mp pm_hpv r hr
  have h4 := List.all_eq_true.mp pm_hpw r hr
  rw [hrm, he] at h3
  rw [hrm, hy] at h4
  dsimp only at h3 h4
  unfold pm_hpk at h2
  rw [hrm, he, hy] at h2
  simp only [Bool.and_eq_true, decide_eq_true_eq] at h2
  obtain ⟨g1, g2, g3, g4, g5, g6, g7, g8, g9, g10, g11⟩ := h2
  split at g1
  · rename_i y2 b l2 r2 hh hw
    simp only [Bool.and_eq_true, decide_eq_true_eq] at g1
    obtain ⟨q1, q2, q3, q4, q5⟩ := g1
    have q2 := Nat.eq_of_beq_eq_true q2
    subst q1; subst q2; subst q3; subst q5
    have hb : pm_byt y.2.1 = b := by
      unfold pm_byt
      cases hz : Nat.beq y.2.1 99999 with
      | true => rw [hz] at g9; cases g9
      | false => rw [cond_false, hw]
    refine ⟨r.2.1, r.2.2.1, r.2.2.2, b, hw, hb, q4, ?_, g3, g4, pm_blt g5, Nat.eq_of_beq_eq_true g6, Nat.eq_of_beq_eq_true g7, Nat.le_of_ble_eq_true g8, g10, g11, fun pc ix len hq => ?_, fun pc ix len hq => ?_, of_decide_eq_true h4⟩
    rotate_left
    · obtain ⟨c9, hc9, hm9⟩ := pm_get_mem hq
      have h9 := List.all_eq_true.mp (List.all_eq_true.mp h3 c9 hc9) _ hm9
      exact pm_blt h9
    · obtain ⟨c9, hc9, hm9⟩ := pm_get_mem hq
      have h9 := List.all_eq_true.mp (List.all_eq_true.mp h3 c9 hc9) _ hm9
      cases h9
    split at g2
    · rename_i k' hk'
      rw [Bool.and_eq_true] at g2
      have z1 := Nat.eq_of_beq_eq_true g2.1
      subst z1
      exact Or.inl ⟨Nat.eq_of_beq_eq_true g2.2, hk'⟩
    · rename_i k' hk'
      rw [Bool.and_eq_true] at g2
      exact Or.inr ⟨Nat.eq_of_beq_eq_true g2.2, k', Nat.eq_of_beq_eq_true g2.1, hk'⟩
    · cases g2
  · cases g1
end
section
/-! a helper's contract: it returns, whether its call threw or not -/
def pm_wsh (y : pm_Hd) (e : pm_M) (hp : Nat) : List Cond := Cond.codeWith y.1 (pm_byt y.2.1) e.2.1 y.2.2 [(0, hp - 3, hp, 13)] :: pm_W0
/-- its end: the places to come may have other addresses -/
def pm_Qh (D : va_G) (cA : Nat → ClassId) (A : Nat → Prop) (ad : Nat → Nat) (h1 : pm_H) (v : Option Value) : Array Value → State → Outcome → State → Prop := fun _ st oc t => (∃ r : Int32, v = some (.int r) ∧ oc = .returned (some (.int r))) ∧ (∃ ad' : Nat → Nat, (∀ a, a < 16 + h1.length → ad' a = ad a) ∧ pm_rel D cA A ad' h1 t.heap) ∧ va_F A st t
theorem pm_hpW {y : pm_Hd} {E : pm_M} {hp : Nat} {b : ByteArray} (h : tables_1[y.2.1]? = some (.codeWith y.1 b E.2.1 y.2.2 [(0, hp - 3, hp, 13)])) : Cond.codeWith y.1 b E.2.1 y.2.2 [(0, hp - 3, hp, 13)] ∈ pm_W0 := pm_W0_at _ h rfl
theorem pm_MtH {l : Launch} (hlt : l.stackTraces = false) {X : List (Nat × List Value)} (hX : pm_X0 X) {D : va_G} {cA : Nat → ClassId} {A : Nat → Prop} {ad : Nat → Nat} {m n d : Nat} {E : pm_M} {y : pm_Hd} {h h1 : pm_H} {As : List Value} {v : Option Value} (hk : pm_get pm_kdt m = some 14) (hm309 : m ≠ 309) (he : pm_ent m = some E) (hy : pm_get pm_hds m = some y) (hlay : (pm_lay As E.2.1).length = E.2.1)
    (hrun : pm_x X n d h m 0 (pm_lay As E.2.1) [] = some (h1, .inl v)) :
    ∃ hp : Nat, Cond.codeWith y.1 (pm_byt y.2.1) E.2.1 y.2.2 [(0, hp - 3, hp, 13)] ∈ pm_W0 ∧ Cond.static y.1 ∈ tables_1 ∧ y.1.cls = "RiverWageLaw" ∧ E.2.1 ≤ 80 ∧ (parseMethodDescriptor y.1.desc).map (fun d => d.parameters.length) = some E.1 ∧
    vx_Met l y.1 (pm_wsh y E hp) (pm_rm d (h1.length - h.length + 1) (pm_slt h1 - pm_slt h + 6)) (pm_Pc D cA A ad X h As) (pm_Qh D cA A ad h1 v) (fun _ _ _ => False) (h1.length - h.length + 1) (pm_slt h1 - pm_slt h + 6) A := by
  obtain ⟨hp, k, ln, b, t1, t2, t3, t4, t5, t6, t7, t8, t9, t10, t11, t12, t13, t14, t15⟩ := pm_hpd hk he hy
  subst t2
  refine ⟨hp, pm_hpW t1, t15, t11, t10, t12, ?_⟩
  refine vx_ofWH (cc := pm_byt y.2.1) (maxL := E.2.1) (ret := y.2.2) (by rw [t11]; decide) rfl ?_
  intro p e s mid args below meth c s₁ B hml hv
  obtain ⟨rfl, hCx, hrel, hAs⟩ := hv
  have hts := atoms_spec (ws := pm_wsh y E hp) B.pre
  have hownc : s.vm.findClass y.1.cls = some mid.cls := findClass_of_methodNamed B.named
  have hlocks := B.notSynchronized
  have hin : meth.name = y.1.name := (name_of_methodNamed B.named B.method).1
  have htab := vx_table (x := y.1) B (hts _ List.mem_cons_self)
  rw [lg_entry_eq]
  rw [t11] at hownc
  have hw0 : ∀ w ∈ pm_W0, w.before (As.map (pm_rv ad)).toArray s = true := fun w hw => hts w (List.mem_cons_of_mem _ hw)
  have F : pm_Fr p s mid (As.map (pm_rv ad)).toArray meth c D cA A ad X m E y := ⟨B.exec, B.bytes, hml, by rw [t8]; exact hownc, hw0, hCx, hin, he, hy, hAs⟩
  have hA0 : pm_At s D cA A ad m h.length (pm_slt h) 0 h s.heap [] 0 0 := ⟨hrel, va_S.rf, Or.inr ⟨rfl, rfl⟩, by omega, by omega⟩
  have hle := pm_mono X n _ _ _ _ _ _ _ hrun
  have l1 : h.length ≤ h1.length := hle.1
  have l2 : pm_slt h ≤ pm_slt h1 := hle.2
  refine pm_FH hlt hX n (R := pm_rm d (h1.length - h.length + 1) (pm_slt h1 - pm_slt h + 6)) (o := (h1, .inl v)) ⟨Nat.le_refl _, Nat.le_refl _⟩ t8 hm309 t14 F hA0 ⟨by show h1.length + 1 ≤ (h1.length - h.length + 1) + h.length; omega, by show pm_slt h1 + 6 ≤ (pm_slt h1 - pm_slt h + 6) + pm_slt h; omega⟩ (fun H1 locs1 cells1 slots1 pc1 ls1 st1 hA1 hE _ => ?_) (fun hv1 pc1 ix ls1 rest1 H1 Hm locs1 cells1 slots1 q ce LS z1 z2 z3 z4 z5 z6 z7 z8 z9 z10 z11 z12 z13 => ?_) hrun _ (pm_entry hlay)
  · intro LS hl
    obtain ⟨hrel1, hS1, -, a4, a5⟩ := hA1
    have a4 : cells1 + h.length = h1.length + 0 := a4
    have a5 : slots1 + pm_slt h = pm_slt h1 + 6 * 0 := a5
    have hret : meth.sig.returnType = some .int := by rw [← t3]; exact B.returns
    cases v with
    | none =>
      obtain ⟨-, -, e3⟩ := hE
      rw [t9] at e3
      cases e3
    | some v =>
      obtain ⟨e1, e2, e3⟩ := hE
      subst e1
      rw [t9] at e2
      cases v with
      | int r =>
        rcases e3 with ⟨-, q2⟩ | ⟨q1, -⟩ | ⟨q1, -⟩
        · refine vx_ret (W.widen (k := h1.length - h.length + 1) (n := pm_slt h1 - pm_slt h + 6) (by omega) (by omega) ?_)
          exact W.iret B.exec B.bytes hret (fun t ht hW => ⟨⟨r, rfl, rfl⟩, ⟨ad, fun _ _ => rfl, by rw [ht]; exact hrel1⟩, hS1.F ht⟩) hS1.2.2 q2
        · rw [t9] at q1; cases q1
        · rw [t9] at q1; cases q1
      | long x => cases e2
      | float x => cases e2
      | double x => cases e2
      | null => cases e2
      | ref x => cases e2
      | retAddr x => cases e2
  · have hv1 : v = some (.int 1) := Sum.inl.inj hv1
    have z12 : cells1 + h.length = h1.length + 1 := z12
    have z13 : slots1 + pm_slt h = pm_slt h1 + 6 := z13
    have hret : meth.sig.returnType = some .int := by rw [← t3]; exact B.returns
    have hpc : pc1 < hp - 3 := t13 _ _ _ z2
    refine vx_catch (own := "RiverWageLaw") (name := pm_nse) (E := pm_nse) hownc [] ⟨0, hp - 3, hp, 13⟩ [] (by rw [htab]; rfl) (fun z hz => nomatch hz) ?_ (show (13 : Nat) ≠ 0 by decide) (hw0 _ (pm_W0_of pm_hpl.1 rfl)) (va_Nw.use rfl (hCx.2.1 _ (List.mem_filter.mpr ⟨pm_hpl.2.1, rfl⟩))) z9 z10 z11 ?_
    · show (decide (0 ≤ pc1) && decide (pc1 < hp - 3)) = true
      rw [decide_eq_true (Nat.zero_le _), decide_eq_true hpc]; rfl
    · show W _ _ _ _ _ _ _ _ _ _ _ _ _ _ _ (F0 mid hp LS [.ref q])
      have hlh : lv_has LS E.2.1 (pm_prs ad ls1) := z3.has
      have c4 := pm_code he hy t5
      have c5 := pm_code he hy t6
      have hgo : ∀ LS' : Array Slot, W p l e (headSpec (pm_wsh y E hp) (pm_rm d (h1.length - h.length + 1) (pm_slt h1 - pm_slt h + 6))).room s mid (As.map (pm_rv ad)).toArray below meth c H1 locs1 cells1 slots1 (vx_MQ below (pm_Qh D cA A ad h1 v) (fun _ _ _ => False) (As.map (pm_rv ad)).toArray s (h1.length - h.length + 1) (pm_slt h1 - pm_slt h + 6) A) (F0 mid (hp + ln) LS' []) := by
        intro LS'
        refine lv_iconst B.exec B.bytes c4.1 rfl ?_
        have ec : cells1 = h1.length - h.length + 1 := by omega
        have es : slots1 = pm_slt h1 - pm_slt h + 6 := by omega
        subst ec; subst es
        refine vx_ret ?_
        exact W.iret B.exec B.bytes hret (fun t ht hW => ⟨⟨1, hv1, rfl⟩, ⟨pm_sw ad (16 + h1.length) H1.size, fun a ha => pm_sw_lt ha, by rw [ht]; exact z5.grown z4 z7⟩, z8.F ht⟩) z8.2.2 c5.1
      rcases t4 with ⟨rfl, t4⟩ | ⟨rfl, k', rfl, t4⟩
      · exact lv_astore B.exec B.bytes (pm_code he hy t4).1 hlh t7 rfl fun LS' _ => hgo LS'
      · exact lv_astore_n B.exec B.bytes (pm_code he hy t4).1 rfl hlh t7 rfl fun LS' _ => hgo LS'
end
section
/-! the law's own frame: by the steps of its run; a helper's call may change the addresses to come -/
theorem pm_hp309 : pm_get pm_kdt 309 ≠ some 14 := by decide +kernel
theorem pm_lr.sw {ad ad' : Nat → Nat} {nL n : Nat} {ls : pm_L} {LS : Array Slot} (hs : ∀ a, a < n → ad' a = ad a) (hc : pm_all (pm_scl n) ls = true) (h : pm_lr ad nL ls LS) : pm_lr ad' nL ls LS := by
  refine ⟨h.1, h.2.1, h.2.2.1, fun i v hv => ?_⟩
  rw [pm_all_eq, List.all_eq_true] at hc
  have hm := hc (some v) (List.mem_of_getElem? hv)
  have hv2 : pm_scv n v = true := by
    cases v with
    | ref a => exact hm
    | int x => rfl
    | long x => rfl
    | float x => rfl
    | double x => rfl
    | null => rfl
    | retAddr x => rfl
  rw [h.2.2.2 i v hv, pm_rv_sw hs hv2]
section PmW
variable {p : Program} {l : Launch} {e : Env} {R : Room} {s : State} {mid : MethodId} {args : Array Value} {below : List Frame} {meth : Method} {c : Code} {H : Heap} {locs : List Loc} {cells slots : Nat} {Q : State → Prop}
variable {D : va_G} {cA : Nat → ClassId} {A : Nat → Prop} {ad : Nat → Nat} {X : List (Nat × List Value)} {E : pm_M} {y : pm_Hd} {hb sb x : Nat} {h : pm_H}
variable {d pc n : Nat} {ls : pm_L} {st : List Value} {o : pm_H × (Option Value ⊕ Unit)}
theorem pm_Fr.sw {ad' : Nat → Nat} {m : Nat} (F : pm_Fr p s mid args meth c D cA A ad X m E y) (hs : ∀ a, a < 16 → ad' a = ad a) : pm_Fr p s mid args meth c D cA A ad' X m E y := by
  obtain ⟨h1, h2, h3, h4, h5, h6, h7⟩ := F
  exact ⟨h1, h2, h3, h4, h5, h6.sw hs, h7⟩
/-- a call of a helper -/
theorem pm_jHelp {ix m' na ci : Nat} {As rest : List Value} (hlt : l.stackTraces = false) (hX : pm_X0 X) (F : pm_Fr p s mid args meth c D cA A ad X 309 E y) (hE13 : E.2.2.1 = 13) (hA : pm_At s D cA A ad 309 hb sb x h H locs cells slots)
    (hg : pm_get (pm_lnk E.2.2.1) ix = some (14, m', na, ci)) (hd2 : decode (pm_byt y.2.1) pc = .ok (.invokestatic ix, 3)) (hpop : pm_pop na st [] = some (As, rest)) (hcat : pm_cat8 rest = true)
    (hR : d + 10 ≤ R.frames ∧ 100 * d + 200 ≤ R.locals) (hscl : pm_all (pm_scl (16 + h.length)) ls = true) (hscv : pm_all (pm_scv (16 + h.length)) rest = true)
    (hroom : ∀ (h1 : pm_H) (q : Nat) (ls : pm_L) (st : List Value), pm_x X n d h1 309 q ls st = some o → h1.length + (x + 1) ≤ R.cells + hb ∧ pm_slt h1 + 6 * (x + 1) ≤ R.slots + sb)
    (hK : ∀ ad' h1 H1 locs1 cells1 slots1 q ls st, pm_Fr p s mid args meth c D cA A ad' X 309 E y → pm_At s D cA A ad' 309 hb sb (x + 1) h1 H1 locs1 cells1 slots1 → pm_x X n d h1 309 q ls st = some o → pm_J p l e R s mid args below meth c H1 locs1 cells1 slots1 Q ad' E.2.1 q ls st)
    (hr : pm_call (pm_x X n) d h 309 pc ls m' As rest false = some o) : pm_J p l e R s mid args below meth c H locs cells slots Q ad E.2.1 pc ls st := by
  intro LS hl
  unfold pm_call at hr
  split at hr
  · cases hr
  · rename_i d'
    split at hr
    · cases hr
    · rename_i e' he'
      replace hr := pm_cond_true hr
      obtain ⟨hb1, hr⟩ := hr
      rw [pm_len_eq] at hb1
      have hb1 := Nat.eq_of_beq_eq_true hb1
      split at hr
      · rename_i h1 v hrun
        rw [pm_fn_eq] at hr
        obtain ⟨y2, e2, q1, q2, q3, q4, q5, q6⟩ := pm_lkM hg (by omega)
        have ee : e2 = e' := Option.some.inj (q2.symm.trans he')
        subst ee
        have hm309 : m' ≠ 309 := by
          rintro rfl
          exact pm_hp309 q3
        have hle := pm_mono X n _ _ _ _ _ _ _ hrun
        have l1 : h.length ≤ h1.length := hle.1
        have l2 : pm_slt h ≤ pm_slt h1 := hle.2
        obtain ⟨hst, hlen⟩ := pm_pop_some hpop
        obtain ⟨hp, w1, w2, w3, w4, w5, hM⟩ := pm_MtH (D := D) (cA := cA) (A := A) (ad := ad) hlt hX q3 hm309 q2 q1 hb1 hrun
        obtain ⟨rm1, rm2⟩ := hroom _ _ _ _ hr
        have a4 := hA.2.2.2.1
        have a5 := hA.2.2.2.2
        have hpre := pm_pre (As := As) F hA
        have F' := F
        obtain ⟨hx, hbc, hml, hown, hw, hCx, hnm, he, hyy, hAs⟩ := F
        have hS : CallFix p mid c (pm_byt y.2.1) E.2.1 s args pm_W0 (pm_nm E.2.2.1) := ⟨hx, hbc, hml, hown, hw⟩
        have hlk : Cond.methodLink (pm_nm E.2.2.1) ix y2.1 ∈ tables_1 := by
          rcases q6 with q6 | q6
          · exact q6
          · exfalso
            have h9 := List.all_eq_true.mp pm_no_nest _ q6
            rw [hE13] at h9
            cases h9
        have hini : Cond.initialized y2.1.cls ∈ pm_W0 := by
          rw [w3]
          exact List.mem_filter.mpr ⟨pm_hpl.2.2, rfl⟩
        have hG : GoodIn pm_W0 (va_wsS (pm_nm E.2.2.1) ix y2.1 (pm_wsh y2 e2 hp)) := pm_good fun w hw9 => by
          unfold va_wsS at hw9
          rcases List.mem_append.mp hw9 with hw9 | hw9
          · rcases List.mem_cons.mp hw9 with rfl | hw9
            · exact pm_W0_of hlk rfl
            · rcases List.mem_cons.mp hw9 with rfl | hw9
              · exact pm_W0_of w2 rfl
              · rcases List.mem_cons.mp hw9 with rfl | hw9
                · exact hini
                · cases hw9
          · rcases List.mem_cons.mp hw9 with rfl | hw9
            · exact w1
            · exact hw9
        have hst' : st.map (pm_rv ad) = (As.map (pm_rv ad)).reverse ++ rest.map (pm_rv ad) := by rw [hst, List.map_append, List.map_reverse]
        have hW8 : 2 * (F0 mid pc LS (st.map (pm_rv ad))).monitorRoom + ((rest.map (pm_rv ad)).map fun v => v.category).sum ≤ 8 := lv_room (pm_cat8_rv hcat)
        have hn : (As.map (pm_rv ad)).length = e2.1 := by rw [List.length_map]; omega
        have hV := vx_runSX (l := l) (e := e) (below := below) (meth := meth) (locs := locs) (cells := cells) (slots := slots) hS hM (vx_cwSW e2.1 hw hG rfl rfl rfl ⟨by rw [w3]; decide, by rw [w3]; decide, w5⟩ ⟨by show d' + 10 + 1 ≤ R.frames; omega, by show 8 + (e2.2.1 + 11) + (100 * d' + 200) ≤ R.locals; omega⟩) ⟨pm_Pc_blind, hpre⟩ rfl hn hl.1 hst' hW8 hd2 ⟨by omega, by omega⟩
        intro T hT X9
        rcases hV T hT X9 with ⟨v', st₀, t, T', L, h0, X', hL, e1, e2', ⟨⟨r, hv1, hv2⟩, ⟨ad', had, hrel⟩, hF⟩, st9⟩ | ⟨q, st₀, t, T', L, Ex, ce, h0, X', hL, e1, e2', hF, hce, hcv, hcl, st9⟩
        · have hv' : v' = some (.int r) := by cases hv2; rfl
          subst hv'
          subst hv1
          obtain ⟨s1, s2, s3⟩ := hA.2.1
          have hgo := hK ad' h1 T'.heap (locs ++ L) (cells + (h1.length - h.length + 1)) (slots + (pm_slt h1 - pm_slt h + 6)) _ _ _ (F'.sw fun a ha => had a (by omega)) ⟨by rw [e1]; exact hrel, ⟨by rw [e1]; have g9 := hF.1; rw [h0] at g9; omega, fun q g1 g2 => by
            rw [e1, hF.2 q (by rw [h0]; exact Nat.lt_of_lt_of_le g1 s1) g2, h0]
            exact s2 q g1 g2, fun q hq => by
            rcases List.mem_append.mp hq with g | g
            · exact s3 q g
            · exact hL q g⟩, Or.inl rfl, by omega, by omega⟩ hr LS (hl.sw (n := 16 + h.length) (fun a ha => had a (by omega)) hscl)
          have er : rest.map (pm_rv ad') = rest.map (pm_rv ad) := pm_rvs_sw (n := 16 + h.length) (fun a ha => had a (by omega)) hscv
          have eq9 : ((some (Value.int r)).toList ++ rest).map (pm_rv ad') = (some (Value.int r)).toList ++ rest.map (pm_rv ad) := by
            rw [List.map_append, er]; rfl
          rw [eq9] at hgo
          obtain ⟨t2, b1, b2⟩ := hgo T' rfl X'
          exact ⟨t2, st9 t2 b1, b2⟩
        · exact hF.elim
      · cases hr
      · cases hr
end PmW
set_option maxHeartbeats 2000000 in
theorem pm_FW {l : Launch} (hlt : l.stackTraces = false) {X : List (Nat × List Value)} (hX : pm_X0 X) {D : va_G} {cA : Nat → ClassId} {A : Nat → Prop} {p : Program} {e : Env} {R : Room} {s : State} {mid : MethodId} {args : Array Value} {below : List Frame} {meth : Method} {c : Code} {Q : State → Prop} {E : pm_M} {y : pm_Hd} {hb sb d : Nat} {h9 : pm_H} {v9 : Option Value}
    (hR : d + 10 ≤ R.frames ∧ 100 * d + 200 ≤ R.locals) (hown : E.2.2.1 = 13)
    (hend : ∀ ad x1 H1 locs1 cells1 slots1 pc1 ls1 st1, pm_At s D cA A ad 309 hb sb x1 h9 H1 locs1 cells1 slots1 → h9.length + x1 ≤ R.cells + hb → pm_slt h9 + 6 * x1 ≤ R.slots + sb → pm_End y E (.inl v9) pc1 st1 → pm_J p l e R s mid args below meth c H1 locs1 cells1 slots1 Q ad E.2.1 pc1 ls1 st1) :
    ∀ (n : Nat) {ad : Nat → Nat} {H : Heap} {locs : List Loc} {cells slots x : Nat} {h : pm_H} {pc : Nat} {ls : pm_L} {st : List Value},
    pm_Fr p s mid args meth c D cA A ad X 309 E y → pm_At s D cA A ad 309 hb sb x h H locs cells slots → (h9.length + (x + n) ≤ R.cells + hb ∧ pm_slt h9 + 6 * (x + n) ≤ R.slots + sb) →
    pm_x X n d h 309 pc ls st = some (h9, .inl v9) → pm_J p l e R s mid args below meth c H locs cells slots Q ad E.2.1 pc ls st
  | 0, _, _, _, _, _, _, _, _, _, _, _, _, _, hr => nomatch (show (none : pm_R) = some (h9, .inl v9) from hr)
  | n + 1, ad, H, locs, cells, slots, x, h, pc, ls, st, F, hA, hfin, hr => by
    have he := F.2.2.2.2.2.2.2.1
    have hy := F.2.2.2.2.2.2.2.2.1
    have hr : pm_F X (pm_x X n) d h 309 pc ls st = some (h9, .inl v9) := hr
    unfold pm_F at hr
    rw [he] at hr
    dsimp only at hr
    split at hr
    · cases hr
    · rename_i q hq
      obtain ⟨i, len⟩ := q
      obtain ⟨k1, k2, k3⟩ := pm_code he hy hq
      obtain ⟨f1, f2⟩ := hfin
      have hroom : ∀ (h1 : pm_H) (q : Nat) (ls : pm_L) (st : List Value), pm_x X n d h1 309 q ls st = some (h9, .inl v9) → h1.length + x ≤ R.cells + hb ∧ pm_slt h1 + 6 * x ≤ R.slots + sb := by
        intro h1 q ls st hz
        have hm := pm_mono X n _ _ _ _ _ _ _ hz
        have m1 : h1.length ≤ h9.length := hm.1
        have m2 : pm_slt h1 ≤ pm_slt h9 := hm.2
        exact ⟨by omega, by omega⟩
      have hroom1 : ∀ (h1 : pm_H) (q : Nat) (ls : pm_L) (st : List Value), pm_x X n d h1 309 q ls st = some (h9, .inl v9) → h1.length + (x + 1) ≤ R.cells + hb ∧ pm_slt h1 + 6 * (x + 1) ≤ R.slots + sb := by
        intro h1 q ls st hz
        have hm := pm_mono X n _ _ _ _ _ _ _ hz
        have m1 : h1.length ≤ h9.length := hm.1
        have m2 : pm_slt h1 ≤ pm_slt h9 := hm.2
        exact ⟨by omega, by omega⟩
      have hK : ∀ h1 H1 locs1 cells1 slots1 q ls st, pm_At s D cA A ad 309 hb sb x h1 H1 locs1 cells1 slots1 → pm_x X n d h1 309 q ls st = some (h9, .inl v9) → pm_J p l e R s mid args below meth c H1 locs1 cells1 slots1 Q ad E.2.1 q ls st :=
        fun h1 H1 locs1 cells1 slots1 q ls st hA1 hz => pm_FW hlt hX hR hown hend n F hA1 ⟨by omega, by omega⟩ hz
      have hF : pm_Fill l X := pm_fill hX
      refine pm_one F hX hA k1 k2 k3 hroom hK (fun e1 e2 e3 => ?_) (fun how ix hi hlen hg => ?_) hr
      · have e1 : h9 = h := e1
        subst e1
        exact hend ad x H locs cells slots pc ls st hA (by omega) (by omega) e2
      subst hlen
      unfold pm_gInv at hg
      split at hg
      · rename_i kind m' na ci hl
        have hd2 : how = 2 → decode (pm_byt y.2.1) pc = .ok (.invokestatic ix, 3) := by
          rintro rfl
          rcases hi with ⟨q, -⟩ | ⟨-, rfl⟩ | ⟨q, -⟩
          · cases q
          · exact k1
          · cases q
        have hd3 : how = 3 → decode (pm_byt y.2.1) pc = .ok (.invokespecial ix, 3) := by
          rintro rfl
          rcases hi with ⟨q, -⟩ | ⟨q, -⟩ | ⟨-, rfl⟩
          · cases q
          · cases q
          · exact k1
        have hd1 : how = 1 → decode (pm_byt y.2.1) pc = .ok (.invokevirtual ix, 3) := by
          rintro rfl
          rcases hi with ⟨-, rfl⟩ | ⟨q, -⟩ | ⟨q, -⟩
          · exact k1
          · cases q
          · cases q
        have hhow : how = 1 ∨ how = 2 ∨ how = 3 := by
          rcases hi with ⟨q, -⟩ | ⟨q, -⟩ | ⟨q, -⟩
          · exact Or.inl q
          · exact Or.inr (Or.inl q)
          · exact Or.inr (Or.inr q)
        cases hk : Nat.beq kind 12 with
        | true =>
          rw [hk, cond_true] at hg
          replace hg := pm_cond_true hg
          obtain ⟨hb1, hg⟩ := hg
          have hk := Nat.eq_of_beq_eq_true hk
          subst hk
          have hb1 := Nat.eq_of_beq_eq_true hb1
          have hf0 : m' = 0 := by
            cases hz : Nat.beq m' 0 with
            | true => exact Nat.eq_of_beq_eq_true hz
            | false =>
              exfalso
              rw [hz, cond_false] at hb1
              subst hb1
              have hi2 : i = .invokestatic ix := by
                rcases hi with ⟨q, -⟩ | ⟨-, q⟩ | ⟨q, -⟩
                · cases q
                · exact q
                · cases q
              subst hi2
              have k3 : (match pm_get (pm_lnk E.2.2.1) ix with
                | some K => !(Nat.beq K.1 12 && Nat.beq 309 309)
                | none => true) = true := k3
              rw [hl] at k3
              cases k3
          refine pm_jPrim F hA hl hb1 ⟨hd2, hd3⟩ (Or.inr hf0) hR hroom (fun z k v r q g1 g2 g3 g4 g5 g6 g7 => ?_) hK hg
          subst g1
          cases hf0
        | false =>
          rw [hk, cond_false] at hg
          split at hg
          · rename_i As rest hpop
            replace hg := pm_cond_true hg
            obtain ⟨hc8, hg⟩ := hg
            cases hkh : Nat.beq kind how with
            | true =>
              rw [hkh, cond_true] at hg
              have hkh := Nat.eq_of_beq_eq_true hkh
              subst hkh
              have hM : ∀ d' m' y' e' As h1 v, pm_get pm_hds m' = some y' → pm_ent m' = some e' → pm_get pm_kdt m' = some kind → As.length = e'.1 → (pm_lay As e'.2.1).length = e'.2.1 → pm_x X n d' h m' 0 (pm_lay As e'.2.1) [] = some (h1, .inl v) → pm_Mt l D cA A ad X y' e' d' h As h1 v := by
                intro d' m' y' e' As h1 v g1 g2 g3 g4 g5 g6
                obtain ⟨y3, e3, ps, r1, r2, r3⟩ := pm_head g3
                have ey : y3 = y' := Option.some.inj (r1.symm.trans g1)
                have ee : e3 = e' := Option.some.inj (r2.symm.trans g2)
                subst ey; subst ee
                obtain ⟨w1, w2, w3, w4, w5, w6, -⟩ := pm_hd_ok r3 hhow
                have hmn := pm_mono X n _ _ _ _ _ _ _ g6
                refine pm_MtOf (m := m') (rm := pm_rm d' (h1.length - h.length) (pm_slt h1 - pm_slt h)) rfl rfl rfl rfl g2 g1 w6 w3 w4 g5 (fun {p e s mid args below meth c Q} F9 hA9 hend9 => ?_)
                exact pm_FL hX n (Or.inr ⟨hF, Nat.le_refl _, Nat.le_refl _⟩) (pm_own g3 g2 hhow) F9 hA9 ⟨by have := hmn.1; show h1.length ≤ (h1.length - h.length) + h.length; omega, by have := hmn.2; show pm_slt h1 ≤ (pm_slt h1 - pm_slt h) + pm_slt h; omega⟩ (fun H1 locs1 cells1 slots1 pc1 ls1 st1 q1 q2 _ => hend9 H1 locs1 cells1 slots1 pc1 ls1 st1 q1 q2) g6
              have hmono : ∀ d' h0 m0 q ls st h1 v, pm_x X n d' h0 m0 q ls st = some (h1, v) → pm_le h0 h1 := fun d' h0 m0 q ls st h1 v hz => pm_mono X n _ _ _ _ _ _ _ hz
              rcases hhow with rfl | rfl | rfl
              · obtain ⟨a, r, fs, rfl, hcell, hg⟩ := pm_gC1 hg
                rw [show (Nat.beq E.2.2.1 13 && !Nat.beq 309 309) = false by rw [show Nat.beq 309 309 = true from rfl]; cases Nat.beq E.2.2.1 13 <;> rfl] at hg
                exact pm_jCall F hA hl (Or.inl rfl) ⟨hd1, hd2, hd3⟩ hpop hc8 (fun _ => ⟨a, r, fs, rfl, hcell⟩) (fun q => by cases q) hR hroom hmono hM hK hg
              · have hg : pm_call (pm_x X n) d h 309 pc ls m' As rest false = some (h9, .inl v9) := hg
                exact pm_jCall F hA hl (Or.inr (Or.inl rfl)) ⟨hd1, hd2, hd3⟩ hpop hc8 (fun q => by cases q) (fun q => by cases q) hR hroom hmono hM hK hg
              · obtain ⟨a, r, rfl, hg⟩ := pm_gC3 hg
                exact pm_jCall F hA hl (Or.inr (Or.inr rfl)) ⟨hd1, hd2, hd3⟩ hpop hc8 (fun q => by cases q) (fun _ => ⟨a, r, rfl⟩) hR hroom hmono hM hK hg
            | false =>
              rw [hkh, cond_false] at hg
              replace hg := pm_cond_true hg
              obtain ⟨hb2, hg⟩ := hg
              rw [Bool.and_eq_true, Bool.and_eq_true] at hb2
              replace hg := pm_cond_true hg
              obtain ⟨hb3, hg⟩ := hg
              rw [Bool.and_eq_true, pm_len_eq] at hb3
              have hk14 := Nat.eq_of_beq_eq_true hb2.1
              subst hk14
              have hh2 := Nat.eq_of_beq_eq_true hb2.2.1
              exact pm_jHelp hlt hX F hown hA hl (hd2 hh2) hpop hc8 hR hb3.1 hb3.2 hroom1 (fun ad' h1 H1 locs1 cells1 slots1 q ls st F1 hA1 hz => pm_FW hlt hX hR hown hend n F1 hA1 ⟨by omega, by omega⟩ hz) hg
          · cases hg
      · cases hg
end
