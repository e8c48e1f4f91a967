-- ===== PART A: goes FIRST, ahead of the names: the tables' words, and 'selects' of the private methods out of them =====
/-- a private method of a class that the tables say can be made, by its rows of tables_1 -/
def lw_okq (q : MethodName × Nat) : Prop := (q.1.cls ≠ "java/lang/invoke/MethodHandle" ∧ q.1.cls ≠ "java/lang/invoke/VarHandle") ∧ Cond.instantiable q.1.cls q.2 ∈ tables_1 ∧ Cond.privateMethod q.1 ∈ tables_1 ∧ Cond.instanceMethod q.1 ∈ tables_1
theorem lw_p0 : lw_okq (⟨"LuckLinks", "refuse", "(I)I"⟩, 17) := ⟨⟨by decide +kernel, by decide +kernel⟩, List.mem_of_getElem? (i := 24) (by decide +kernel), List.mem_of_getElem? (i := 474) (by decide +kernel), List.mem_of_getElem? (i := 475) (by decide +kernel)⟩
theorem lw_p1 : lw_okq (⟨"LuckLinks$World", "addValue", "(IIII)V"⟩, 12) := ⟨⟨by decide +kernel, by decide +kernel⟩, List.mem_of_getElem? (i := 32) (by decide +kernel), List.mem_of_getElem? (i := 534) (by decide +kernel), List.mem_of_getElem? (i := 535) (by decide +kernel)⟩
theorem lw_p2 : lw_okq (⟨"LuckLinks", "feedNumber", "(I)V"⟩, 17) := ⟨⟨by decide +kernel, by decide +kernel⟩, List.mem_of_getElem? (i := 24) (by decide +kernel), List.mem_of_getElem? (i := 559) (by decide +kernel), List.mem_of_getElem? (i := 560) (by decide +kernel)⟩
theorem lw_p3 : lw_okq (⟨"LuckLinks$LawReader", "split", "(I)V"⟩, 12) := ⟨⟨by decide +kernel, by decide +kernel⟩, List.mem_of_getElem? (i := 91) (by decide +kernel), List.mem_of_getElem? (i := 578) (by decide +kernel), List.mem_of_getElem? (i := 579) (by decide +kernel)⟩
theorem lw_p4 : lw_okq (⟨"LuckLinks$LawReader", "readRule", "()Z"⟩, 12) := ⟨⟨by decide +kernel, by decide +kernel⟩, List.mem_of_getElem? (i := 91) (by decide +kernel), List.mem_of_getElem? (i := 589) (by decide +kernel), List.mem_of_getElem? (i := 590) (by decide +kernel)⟩
theorem lw_p5 : lw_okq (⟨"LuckLinks$LawReader", "takeWord", "(Ljava/lang/String;)Z"⟩, 12) := ⟨⟨by decide +kernel, by decide +kernel⟩, List.mem_of_getElem? (i := 91) (by decide +kernel), List.mem_of_getElem? (i := 594) (by decide +kernel), List.mem_of_getElem? (i := 595) (by decide +kernel)⟩
theorem lw_p6 : lw_okq (⟨"LuckLinks$LawReader", "step", "()V"⟩, 12) := ⟨⟨by decide +kernel, by decide +kernel⟩, List.mem_of_getElem? (i := 91) (by decide +kernel), List.mem_of_getElem? (i := 646) (by decide +kernel), List.mem_of_getElem? (i := 647) (by decide +kernel)⟩
theorem lw_p7 : lw_okq (⟨"LuckLinks$LawReader", "takePart", "()Z"⟩, 12) := ⟨⟨by decide +kernel, by decide +kernel⟩, List.mem_of_getElem? (i := 91) (by decide +kernel), List.mem_of_getElem? (i := 650) (by decide +kernel), List.mem_of_getElem? (i := 651) (by decide +kernel)⟩
theorem lw_p8 : lw_okq (⟨"LuckLinks$LawReader", "readAmount", "([I)Z"⟩, 12) := ⟨⟨by decide +kernel, by decide +kernel⟩, List.mem_of_getElem? (i := 91) (by decide +kernel), List.mem_of_getElem? (i := 661) (by decide +kernel), List.mem_of_getElem? (i := 662) (by decide +kernel)⟩
theorem lw_p9 : lw_okq (⟨"LuckLinks$LawReader", "readEntry", "([III)Z"⟩, 12) := ⟨⟨by decide +kernel, by decide +kernel⟩, List.mem_of_getElem? (i := 91) (by decide +kernel), List.mem_of_getElem? (i := 665) (by decide +kernel), List.mem_of_getElem? (i := 666) (by decide +kernel)⟩
theorem lw_p10 : lw_okq (⟨"LuckLinks$LawReader", "takeNumber", "(II)Z"⟩, 12) := ⟨⟨by decide +kernel, by decide +kernel⟩, List.mem_of_getElem? (i := 91) (by decide +kernel), List.mem_of_getElem? (i := 669) (by decide +kernel), List.mem_of_getElem? (i := 670) (by decide +kernel)⟩
theorem lw_p11 : lw_okq (⟨"LuckLinks$LawReader", "readHour", "()Z"⟩, 12) := ⟨⟨by decide +kernel, by decide +kernel⟩, List.mem_of_getElem? (i := 91) (by decide +kernel), List.mem_of_getElem? (i := 675) (by decide +kernel), List.mem_of_getElem? (i := 676) (by decide +kernel)⟩
theorem lw_p12 : lw_okq (⟨"LuckLinks$LawReader", "readPress", "()Z"⟩, 12) := ⟨⟨by decide +kernel, by decide +kernel⟩, List.mem_of_getElem? (i := 91) (by decide +kernel), List.mem_of_getElem? (i := 685) (by decide +kernel), List.mem_of_getElem? (i := 686) (by decide +kernel)⟩
theorem lw_p13 : lw_okq (⟨"LuckLinks$LawReader", "readAny", "()Z"⟩, 12) := ⟨⟨by decide +kernel, by decide +kernel⟩, List.mem_of_getElem? (i := 91) (by decide +kernel), List.mem_of_getElem? (i := 692) (by decide +kernel), List.mem_of_getElem? (i := 693) (by decide +kernel)⟩
theorem lw_p14 : lw_okq (⟨"LuckLinks$LawReader", "await", "(I)V"⟩, 12) := ⟨⟨by decide +kernel, by decide +kernel⟩, List.mem_of_getElem? (i := 91) (by decide +kernel), List.mem_of_getElem? (i := 697) (by decide +kernel), List.mem_of_getElem? (i := 698) (by decide +kernel)⟩
theorem lw_p15 : lw_okq (⟨"LuckLinks$LawReader", "takeSign", "(C)Z"⟩, 12) := ⟨⟨by decide +kernel, by decide +kernel⟩, List.mem_of_getElem? (i := 91) (by decide +kernel), List.mem_of_getElem? (i := 701) (by decide +kernel), List.mem_of_getElem? (i := 702) (by decide +kernel)⟩
def lw_privs_1 : List (MethodName × Nat) := [(⟨"LuckLinks", "refuse", "(I)I"⟩, 17), (⟨"LuckLinks$World", "addValue", "(IIII)V"⟩, 12), (⟨"LuckLinks", "feedNumber", "(I)V"⟩, 17), (⟨"LuckLinks$LawReader", "split", "(I)V"⟩, 12), (⟨"LuckLinks$LawReader", "readRule", "()Z"⟩, 12), (⟨"LuckLinks$LawReader", "takeWord", "(Ljava/lang/String;)Z"⟩, 12), (⟨"LuckLinks$LawReader", "step", "()V"⟩, 12), (⟨"LuckLinks$LawReader", "takePart", "()Z"⟩, 12), (⟨"LuckLinks$LawReader", "readAmount", "([I)Z"⟩, 12), (⟨"LuckLinks$LawReader", "readEntry", "([III)Z"⟩, 12), (⟨"LuckLinks$LawReader", "takeNumber", "(II)Z"⟩, 12), (⟨"LuckLinks$LawReader", "readHour", "()Z"⟩, 12), (⟨"LuckLinks$LawReader", "readPress", "()Z"⟩, 12), (⟨"LuckLinks$LawReader", "readAny", "()Z"⟩, 12), (⟨"LuckLinks$LawReader", "await", "(I)V"⟩, 12), (⟨"LuckLinks$LawReader", "takeSign", "(C)Z"⟩, 12)]
theorem lw_r1 : ∀ q ∈ lw_privs_1, lw_okq q := List.forall_mem_cons.mpr ⟨lw_p0, List.forall_mem_cons.mpr ⟨lw_p1, List.forall_mem_cons.mpr ⟨lw_p2, List.forall_mem_cons.mpr ⟨lw_p3, List.forall_mem_cons.mpr ⟨lw_p4, List.forall_mem_cons.mpr ⟨lw_p5, List.forall_mem_cons.mpr ⟨lw_p6, List.forall_mem_cons.mpr ⟨lw_p7, List.forall_mem_cons.mpr ⟨lw_p8, List.forall_mem_cons.mpr ⟨lw_p9, List.forall_mem_cons.mpr ⟨lw_p10, List.forall_mem_cons.mpr ⟨lw_p11, List.forall_mem_cons.mpr ⟨lw_p12, List.forall_mem_cons.mpr ⟨lw_p13, List.forall_mem_cons.mpr ⟨lw_p14, List.forall_mem_cons.mpr ⟨lw_p15, fun _ h => absurd h List.not_mem_nil⟩⟩⟩⟩⟩⟩⟩⟩⟩⟩⟩⟩⟩⟩⟩⟩
theorem lw_p16 : lw_okq (⟨"LuckLinks$LawReader", "readComparison", "()Z"⟩, 12) := ⟨⟨by decide +kernel, by decide +kernel⟩, List.mem_of_getElem? (i := 91) (by decide +kernel), List.mem_of_getElem? (i := 705) (by decide +kernel), List.mem_of_getElem? (i := 706) (by decide +kernel)⟩
theorem lw_p17 : lw_okq (⟨"LuckLinks$LawReader", "endOne", "()V"⟩, 12) := ⟨⟨by decide +kernel, by decide +kernel⟩, List.mem_of_getElem? (i := 91) (by decide +kernel), List.mem_of_getElem? (i := 724) (by decide +kernel), List.mem_of_getElem? (i := 725) (by decide +kernel)⟩
theorem lw_p18 : lw_okq (⟨"LuckLinks$LawReader", "emitDownTo", "(I)V"⟩, 12) := ⟨⟨by decide +kernel, by decide +kernel⟩, List.mem_of_getElem? (i := 91) (by decide +kernel), List.mem_of_getElem? (i := 728) (by decide +kernel), List.mem_of_getElem? (i := 729) (by decide +kernel)⟩
theorem lw_p19 : lw_okq (⟨"LuckLinks$LawReader", "takeJoin", "()I"⟩, 12) := ⟨⟨by decide +kernel, by decide +kernel⟩, List.mem_of_getElem? (i := 91) (by decide +kernel), List.mem_of_getElem? (i := 732) (by decide +kernel), List.mem_of_getElem? (i := 733) (by decide +kernel)⟩
theorem lw_p20 : lw_okq (⟨"LuckLinks$WeekDrawing", "drift", "(ILLuckLinks$Law;)V"⟩, 4) := ⟨⟨by decide +kernel, by decide +kernel⟩, List.mem_of_getElem? (i := 233) (by decide +kernel), List.mem_of_getElem? (i := 780) (by decide +kernel), List.mem_of_getElem? (i := 781) (by decide +kernel)⟩
theorem lw_p21 : lw_okq (⟨"LuckLinks$WeekDrawing", "draw", "(I)I"⟩, 4) := ⟨⟨by decide +kernel, by decide +kernel⟩, List.mem_of_getElem? (i := 233) (by decide +kernel), List.mem_of_getElem? (i := 788) (by decide +kernel), List.mem_of_getElem? (i := 789) (by decide +kernel)⟩
theorem lw_p22 : lw_okq (⟨"LuckLinks$WeekDrawing", "drawDay", "(IIILLuckLinks$Law;)V"⟩, 4) := ⟨⟨by decide +kernel, by decide +kernel⟩, List.mem_of_getElem? (i := 233) (by decide +kernel), List.mem_of_getElem? (i := 802) (by decide +kernel), List.mem_of_getElem? (i := 803) (by decide +kernel)⟩
theorem lw_p23 : lw_okq (⟨"LuckLinks$WeekDrawing", "drawStrokes", "(ILLuckLinks$Law;)I"⟩, 4) := ⟨⟨by decide +kernel, by decide +kernel⟩, List.mem_of_getElem? (i := 233) (by decide +kernel), List.mem_of_getElem? (i := 831) (by decide +kernel), List.mem_of_getElem? (i := 832) (by decide +kernel)⟩
theorem lw_p24 : lw_okq (⟨"LuckLinks$Law", "holds", "(II[I)Z"⟩, 19) := ⟨⟨by decide +kernel, by decide +kernel⟩, List.mem_of_getElem? (i := 97) (by decide +kernel), List.mem_of_getElem? (i := 847) (by decide +kernel), List.mem_of_getElem? (i := 848) (by decide +kernel)⟩
theorem lw_p25 : lw_okq (⟨"LuckLinks$WeekDrawing", "goOn", "(IIII)I"⟩, 4) := ⟨⟨by decide +kernel, by decide +kernel⟩, List.mem_of_getElem? (i := 233) (by decide +kernel), List.mem_of_getElem? (i := 857) (by decide +kernel), List.mem_of_getElem? (i := 858) (by decide +kernel)⟩
theorem lw_p26 : lw_okq (⟨"LuckLinks$Standings", "lastDayOf", "(I)I"⟩, 3) := ⟨⟨by decide +kernel, by decide +kernel⟩, List.mem_of_getElem? (i := 268) (by decide +kernel), List.mem_of_getElem? (i := 894) (by decide +kernel), List.mem_of_getElem? (i := 895) (by decide +kernel)⟩
theorem lw_p27 : lw_okq (⟨"LuckLinks$Standings", "rankBySums", "(II)V"⟩, 3) := ⟨⟨by decide +kernel, by decide +kernel⟩, List.mem_of_getElem? (i := 268) (by decide +kernel), List.mem_of_getElem? (i := 900) (by decide +kernel), List.mem_of_getElem? (i := 901) (by decide +kernel)⟩
theorem lw_p28 : lw_okq (⟨"LuckLinks$Standings", "addShares", "(I[I)V"⟩, 3) := ⟨⟨by decide +kernel, by decide +kernel⟩, List.mem_of_getElem? (i := 268) (by decide +kernel), List.mem_of_getElem? (i := 920) (by decide +kernel), List.mem_of_getElem? (i := 921) (by decide +kernel)⟩
theorem lw_p29 : lw_okq (⟨"LuckLinks$Tallies", "addCouplesOfOne", "(III)V"⟩, 8) := ⟨⟨by decide +kernel, by decide +kernel⟩, List.mem_of_getElem? (i := 377) (by decide +kernel), List.mem_of_getElem? (i := 948) (by decide +kernel), List.mem_of_getElem? (i := 949) (by decide +kernel)⟩
theorem lw_p30 : lw_okq (⟨"LuckLinks$Tallies", "addCouples", "(JJJ)V"⟩, 8) := ⟨⟨by decide +kernel, by decide +kernel⟩, List.mem_of_getElem? (i := 377) (by decide +kernel), List.mem_of_getElem? (i := 954) (by decide +kernel), List.mem_of_getElem? (i := 955) (by decide +kernel)⟩
theorem lw_p31 : lw_okq (⟨"LuckLinks$Tallies", "addCouplesOfDay", "(III)V"⟩, 8) := ⟨⟨by decide +kernel, by decide +kernel⟩, List.mem_of_getElem? (i := 377) (by decide +kernel), List.mem_of_getElem? (i := 959) (by decide +kernel), List.mem_of_getElem? (i := 960) (by decide +kernel)⟩
def lw_privs_2 : List (MethodName × Nat) := [(⟨"LuckLinks$LawReader", "readComparison", "()Z"⟩, 12), (⟨"LuckLinks$LawReader", "endOne", "()V"⟩, 12), (⟨"LuckLinks$LawReader", "emitDownTo", "(I)V"⟩, 12), (⟨"LuckLinks$LawReader", "takeJoin", "()I"⟩, 12), (⟨"LuckLinks$WeekDrawing", "drift", "(ILLuckLinks$Law;)V"⟩, 4), (⟨"LuckLinks$WeekDrawing", "draw", "(I)I"⟩, 4), (⟨"LuckLinks$WeekDrawing", "drawDay", "(IIILLuckLinks$Law;)V"⟩, 4), (⟨"LuckLinks$WeekDrawing", "drawStrokes", "(ILLuckLinks$Law;)I"⟩, 4), (⟨"LuckLinks$Law", "holds", "(II[I)Z"⟩, 19), (⟨"LuckLinks$WeekDrawing", "goOn", "(IIII)I"⟩, 4), (⟨"LuckLinks$Standings", "lastDayOf", "(I)I"⟩, 3), (⟨"LuckLinks$Standings", "rankBySums", "(II)V"⟩, 3), (⟨"LuckLinks$Standings", "addShares", "(I[I)V"⟩, 3), (⟨"LuckLinks$Tallies", "addCouplesOfOne", "(III)V"⟩, 8), (⟨"LuckLinks$Tallies", "addCouples", "(JJJ)V"⟩, 8), (⟨"LuckLinks$Tallies", "addCouplesOfDay", "(III)V"⟩, 8)]
theorem lw_r2 : ∀ q ∈ lw_privs_2, lw_okq q := List.forall_mem_cons.mpr ⟨lw_p16, List.forall_mem_cons.mpr ⟨lw_p17, List.forall_mem_cons.mpr ⟨lw_p18, List.forall_mem_cons.mpr ⟨lw_p19, List.forall_mem_cons.mpr ⟨lw_p20, List.forall_mem_cons.mpr ⟨lw_p21, List.forall_mem_cons.mpr ⟨lw_p22, List.forall_mem_cons.mpr ⟨lw_p23, List.forall_mem_cons.mpr ⟨lw_p24, List.forall_mem_cons.mpr ⟨lw_p25, List.forall_mem_cons.mpr ⟨lw_p26, List.forall_mem_cons.mpr ⟨lw_p27, List.forall_mem_cons.mpr ⟨lw_p28, List.forall_mem_cons.mpr ⟨lw_p29, List.forall_mem_cons.mpr ⟨lw_p30, List.forall_mem_cons.mpr ⟨lw_p31, fun _ h => absurd h List.not_mem_nil⟩⟩⟩⟩⟩⟩⟩⟩⟩⟩⟩⟩⟩⟩⟩⟩
theorem lw_p32 : lw_okq (⟨"LuckLinks$Form", "roundsIn", "(II)I"⟩, 5) := ⟨⟨by decide +kernel, by decide +kernel⟩, List.mem_of_getElem? (i := 286) (by decide +kernel), List.mem_of_getElem? (i := 1022) (by decide +kernel), List.mem_of_getElem? (i := 1023) (by decide +kernel)⟩
theorem lw_p33 : lw_okq (⟨"LuckLinks$Form", "offsIn", "(II)J"⟩, 5) := ⟨⟨by decide +kernel, by decide +kernel⟩, List.mem_of_getElem? (i := 286) (by decide +kernel), List.mem_of_getElem? (i := 1030) (by decide +kernel), List.mem_of_getElem? (i := 1031) (by decide +kernel)⟩
theorem lw_p34 : lw_okq (⟨"LuckLinks$Chances", "fillLot", "(LLuckLinks$Law;)V"⟩, 9) := ⟨⟨by decide +kernel, by decide +kernel⟩, List.mem_of_getElem? (i := 343) (by decide +kernel), List.mem_of_getElem? (i := 1094) (by decide +kernel), List.mem_of_getElem? (i := 1095) (by decide +kernel)⟩
theorem lw_p35 : lw_okq (⟨"LuckLinks$Chances", "addDraw", "(I)V"⟩, 9) := ⟨⟨by decide +kernel, by decide +kernel⟩, List.mem_of_getElem? (i := 343) (by decide +kernel), List.mem_of_getElem? (i := 1102) (by decide +kernel), List.mem_of_getElem? (i := 1103) (by decide +kernel)⟩
theorem lw_p36 : lw_okq (⟨"LuckLinks$Chances", "lotAbove", "(I)J"⟩, 9) := ⟨⟨by decide +kernel, by decide +kernel⟩, List.mem_of_getElem? (i := 343) (by decide +kernel), List.mem_of_getElem? (i := 1111) (by decide +kernel), List.mem_of_getElem? (i := 1112) (by decide +kernel)⟩
theorem lw_p37 : lw_okq (⟨"LuckLinks$Chances", "fillStep", "()V"⟩, 9) := ⟨⟨by decide +kernel, by decide +kernel⟩, List.mem_of_getElem? (i := 343) (by decide +kernel), List.mem_of_getElem? (i := 1123) (by decide +kernel), List.mem_of_getElem? (i := 1124) (by decide +kernel)⟩
theorem lw_p38 : lw_okq (⟨"LuckLinks$Chances", "gapsAbove", "(II)J"⟩, 9) := ⟨⟨by decide +kernel, by decide +kernel⟩, List.mem_of_getElem? (i := 343) (by decide +kernel), List.mem_of_getElem? (i := 1131) (by decide +kernel), List.mem_of_getElem? (i := 1132) (by decide +kernel)⟩
theorem lw_p39 : lw_okq (⟨"LuckLinks$Chances", "addStep", "(I)V"⟩, 9) := ⟨⟨by decide +kernel, by decide +kernel⟩, List.mem_of_getElem? (i := 343) (by decide +kernel), List.mem_of_getElem? (i := 1135) (by decide +kernel), List.mem_of_getElem? (i := 1136) (by decide +kernel)⟩
theorem lw_p40 : lw_okq (⟨"LuckLinks$Halves", "gatherHalf", "(III[J[J)V"⟩, 8) := ⟨⟨by decide +kernel, by decide +kernel⟩, List.mem_of_getElem? (i := 309) (by decide +kernel), List.mem_of_getElem? (i := 1150) (by decide +kernel), List.mem_of_getElem? (i := 1151) (by decide +kernel)⟩
theorem lw_p41 : lw_okq (⟨"LuckLinks$Halves", "isInBoth", "(I)Z"⟩, 8) := ⟨⟨by decide +kernel, by decide +kernel⟩, List.mem_of_getElem? (i := 309) (by decide +kernel), List.mem_of_getElem? (i := 1156) (by decide +kernel), List.mem_of_getElem? (i := 1157) (by decide +kernel)⟩
theorem lw_p42 : lw_okq (⟨"LuckLinks$Halves", "compareWithThoseAhead", "(I)V"⟩, 8) := ⟨⟨by decide +kernel, by decide +kernel⟩, List.mem_of_getElem? (i := 309) (by decide +kernel), List.mem_of_getElem? (i := 1160) (by decide +kernel), List.mem_of_getElem? (i := 1161) (by decide +kernel)⟩
theorem lw_p43 : lw_okq (⟨"LuckLinks$Standings", "rankByGains", "(III[I)V"⟩, 3) := ⟨⟨by decide +kernel, by decide +kernel⟩, List.mem_of_getElem? (i := 268) (by decide +kernel), List.mem_of_getElem? (i := 1196) (by decide +kernel), List.mem_of_getElem? (i := 1197) (by decide +kernel)⟩
theorem lw_p44 : lw_okq (⟨"LuckLinks$Form", "foretold", "(IIILLuckLinks$Law;)I"⟩, 5) := ⟨⟨by decide +kernel, by decide +kernel⟩, List.mem_of_getElem? (i := 286) (by decide +kernel), List.mem_of_getElem? (i := 1216) (by decide +kernel), List.mem_of_getElem? (i := 1217) (by decide +kernel)⟩
theorem lw_p45 : lw_okq (⟨"LuckLinks$Form", "latest", "(II)I"⟩, 5) := ⟨⟨by decide +kernel, by decide +kernel⟩, List.mem_of_getElem? (i := 286) (by decide +kernel), List.mem_of_getElem? (i := 1224) (by decide +kernel), List.mem_of_getElem? (i := 1225) (by decide +kernel)⟩
theorem lw_p46 : lw_okq (⟨"LuckLinksModel", "refuses", "(I)I"⟩, 75) := ⟨⟨by decide +kernel, by decide +kernel⟩, List.mem_of_getElem? (i := 1313) (by decide +kernel), List.mem_of_getElem? (i := 1550) (by decide +kernel), List.mem_of_getElem? (i := 1551) (by decide +kernel)⟩
theorem lw_p47 : lw_okq (⟨"LuckLinksModel", "copies", "(II)V"⟩, 75) := ⟨⟨by decide +kernel, by decide +kernel⟩, List.mem_of_getElem? (i := 1313) (by decide +kernel), List.mem_of_getElem? (i := 1554) (by decide +kernel), List.mem_of_getElem? (i := 1555) (by decide +kernel)⟩
def lw_privs_3 : List (MethodName × Nat) := [(⟨"LuckLinks$Form", "roundsIn", "(II)I"⟩, 5), (⟨"LuckLinks$Form", "offsIn", "(II)J"⟩, 5), (⟨"LuckLinks$Chances", "fillLot", "(LLuckLinks$Law;)V"⟩, 9), (⟨"LuckLinks$Chances", "addDraw", "(I)V"⟩, 9), (⟨"LuckLinks$Chances", "lotAbove", "(I)J"⟩, 9), (⟨"LuckLinks$Chances", "fillStep", "()V"⟩, 9), (⟨"LuckLinks$Chances", "gapsAbove", "(II)J"⟩, 9), (⟨"LuckLinks$Chances", "addStep", "(I)V"⟩, 9), (⟨"LuckLinks$Halves", "gatherHalf", "(III[J[J)V"⟩, 8), (⟨"LuckLinks$Halves", "isInBoth", "(I)Z"⟩, 8), (⟨"LuckLinks$Halves", "compareWithThoseAhead", "(I)V"⟩, 8), (⟨"LuckLinks$Standings", "rankByGains", "(III[I)V"⟩, 3), (⟨"LuckLinks$Form", "foretold", "(IIILLuckLinks$Law;)I"⟩, 5), (⟨"LuckLinks$Form", "latest", "(II)I"⟩, 5), (⟨"LuckLinksModel", "refuses", "(I)I"⟩, 75), (⟨"LuckLinksModel", "copies", "(II)V"⟩, 75)]
theorem lw_r3 : ∀ q ∈ lw_privs_3, lw_okq q := List.forall_mem_cons.mpr ⟨lw_p32, List.forall_mem_cons.mpr ⟨lw_p33, List.forall_mem_cons.mpr ⟨lw_p34, List.forall_mem_cons.mpr ⟨lw_p35, List.forall_mem_cons.mpr ⟨lw_p36, List.forall_mem_cons.mpr ⟨lw_p37, List.forall_mem_cons.mpr ⟨lw_p38, List.forall_mem_cons.mpr ⟨lw_p39, List.forall_mem_cons.mpr ⟨lw_p40, List.forall_mem_cons.mpr ⟨lw_p41, List.forall_mem_cons.mpr ⟨lw_p42, List.forall_mem_cons.mpr ⟨lw_p43, List.forall_mem_cons.mpr ⟨lw_p44, List.forall_mem_cons.mpr ⟨lw_p45, List.forall_mem_cons.mpr ⟨lw_p46, List.forall_mem_cons.mpr ⟨lw_p47, fun _ h => absurd h List.not_mem_nil⟩⟩⟩⟩⟩⟩⟩⟩⟩⟩⟩⟩⟩⟩⟩⟩
theorem lw_p48 : lw_okq (⟨"LuckLinksModel", "isNot", "()Z"⟩, 75) := ⟨⟨by decide +kernel, by decide +kernel⟩, List.mem_of_getElem? (i := 1313) (by decide +kernel), List.mem_of_getElem? (i := 1565) (by decide +kernel), List.mem_of_getElem? (i := 1566) (by decide +kernel)⟩
theorem lw_p49 : lw_okq (⟨"LuckLinksModel", "isPlayer", "(I)Z"⟩, 75) := ⟨⟨by decide +kernel, by decide +kernel⟩, List.mem_of_getElem? (i := 1313) (by decide +kernel), List.mem_of_getElem? (i := 1588) (by decide +kernel), List.mem_of_getElem? (i := 1589) (by decide +kernel)⟩
theorem lw_p50 : lw_okq (⟨"LuckLinksModel", "adds", "(II)V"⟩, 75) := ⟨⟨by decide +kernel, by decide +kernel⟩, List.mem_of_getElem? (i := 1313) (by decide +kernel), List.mem_of_getElem? (i := 1596) (by decide +kernel), List.mem_of_getElem? (i := 1597) (by decide +kernel)⟩
theorem lw_p51 : lw_okq (⟨"LuckLinksModel", "clears", "()V"⟩, 75) := ⟨⟨by decide +kernel, by decide +kernel⟩, List.mem_of_getElem? (i := 1313) (by decide +kernel), List.mem_of_getElem? (i := 1617) (by decide +kernel), List.mem_of_getElem? (i := 1618) (by decide +kernel)⟩
theorem lw_p52 : lw_okq (⟨"LuckLinksModel", "next", "()V"⟩, 75) := ⟨⟨by decide +kernel, by decide +kernel⟩, List.mem_of_getElem? (i := 1313) (by decide +kernel), List.mem_of_getElem? (i := 1621) (by decide +kernel), List.mem_of_getElem? (i := 1622) (by decide +kernel)⟩
theorem lw_p53 : lw_okq (⟨"LuckLinksModel", "here", "()I"⟩, 75) := ⟨⟨by decide +kernel, by decide +kernel⟩, List.mem_of_getElem? (i := 1313) (by decide +kernel), List.mem_of_getElem? (i := 1625) (by decide +kernel), List.mem_of_getElem? (i := 1626) (by decide +kernel)⟩
theorem lw_p54 : lw_okq (⟨"LuckLinksModel", "readRule", "()V"⟩, 75) := ⟨⟨by decide +kernel, by decide +kernel⟩, List.mem_of_getElem? (i := 1313) (by decide +kernel), List.mem_of_getElem? (i := 1632) (by decide +kernel), List.mem_of_getElem? (i := 1633) (by decide +kernel)⟩
theorem lw_p55 : lw_okq (⟨"LuckLinksModel", "ruleHere", "()I"⟩, 75) := ⟨⟨by decide +kernel, by decide +kernel⟩, List.mem_of_getElem? (i := 1313) (by decide +kernel), List.mem_of_getElem? (i := 1636) (by decide +kernel), List.mem_of_getElem? (i := 1637) (by decide +kernel)⟩
theorem lw_p56 : lw_okq (⟨"LuckLinksModel", "errs", "()V"⟩, 75) := ⟨⟨by decide +kernel, by decide +kernel⟩, List.mem_of_getElem? (i := 1313) (by decide +kernel), List.mem_of_getElem? (i := 1648) (by decide +kernel), List.mem_of_getElem? (i := 1649) (by decide +kernel)⟩
theorem lw_p57 : lw_okq (⟨"LuckLinksModel", "partHere", "()I"⟩, 75) := ⟨⟨by decide +kernel, by decide +kernel⟩, List.mem_of_getElem? (i := 1313) (by decide +kernel), List.mem_of_getElem? (i := 1652) (by decide +kernel), List.mem_of_getElem? (i := 1653) (by decide +kernel)⟩
theorem lw_p58 : lw_okq (⟨"LuckLinksModel", "is", "(J)Z"⟩, 75) := ⟨⟨by decide +kernel, by decide +kernel⟩, List.mem_of_getElem? (i := 1313) (by decide +kernel), List.mem_of_getElem? (i := 1657) (by decide +kernel), List.mem_of_getElem? (i := 1658) (by decide +kernel)⟩
theorem lw_p59 : lw_okq (⟨"LuckLinksModel", "numeral", "(II)I"⟩, 75) := ⟨⟨by decide +kernel, by decide +kernel⟩, List.mem_of_getElem? (i := 1313) (by decide +kernel), List.mem_of_getElem? (i := 1664) (by decide +kernel), List.mem_of_getElem? (i := 1665) (by decide +kernel)⟩
theorem lw_p60 : lw_okq (⟨"LuckLinksModel", "readHour", "()V"⟩, 75) := ⟨⟨by decide +kernel, by decide +kernel⟩, List.mem_of_getElem? (i := 1313) (by decide +kernel), List.mem_of_getElem? (i := 1668) (by decide +kernel), List.mem_of_getElem? (i := 1669) (by decide +kernel)⟩
theorem lw_p61 : lw_okq (⟨"LuckLinksModel", "readPress", "()V"⟩, 75) := ⟨⟨by decide +kernel, by decide +kernel⟩, List.mem_of_getElem? (i := 1313) (by decide +kernel), List.mem_of_getElem? (i := 1673) (by decide +kernel), List.mem_of_getElem? (i := 1674) (by decide +kernel)⟩
theorem lw_p62 : lw_okq (⟨"LuckLinksModel", "readCondition", "()V"⟩, 75) := ⟨⟨by decide +kernel, by decide +kernel⟩, List.mem_of_getElem? (i := 1313) (by decide +kernel), List.mem_of_getElem? (i := 1680) (by decide +kernel), List.mem_of_getElem? (i := 1681) (by decide +kernel)⟩
theorem lw_p63 : lw_okq (⟨"LuckLinksModel", "readTest", "()V"⟩, 75) := ⟨⟨by decide +kernel, by decide +kernel⟩, List.mem_of_getElem? (i := 1313) (by decide +kernel), List.mem_of_getElem? (i := 1685) (by decide +kernel), List.mem_of_getElem? (i := 1686) (by decide +kernel)⟩
def lw_privs_4 : List (MethodName × Nat) := [(⟨"LuckLinksModel", "isNot", "()Z"⟩, 75), (⟨"LuckLinksModel", "isPlayer", "(I)Z"⟩, 75), (⟨"LuckLinksModel", "adds", "(II)V"⟩, 75), (⟨"LuckLinksModel", "clears", "()V"⟩, 75), (⟨"LuckLinksModel", "next", "()V"⟩, 75), (⟨"LuckLinksModel", "here", "()I"⟩, 75), (⟨"LuckLinksModel", "readRule", "()V"⟩, 75), (⟨"LuckLinksModel", "ruleHere", "()I"⟩, 75), (⟨"LuckLinksModel", "errs", "()V"⟩, 75), (⟨"LuckLinksModel", "partHere", "()I"⟩, 75), (⟨"LuckLinksModel", "is", "(J)Z"⟩, 75), (⟨"LuckLinksModel", "numeral", "(II)I"⟩, 75), (⟨"LuckLinksModel", "readHour", "()V"⟩, 75), (⟨"LuckLinksModel", "readPress", "()V"⟩, 75), (⟨"LuckLinksModel", "readCondition", "()V"⟩, 75), (⟨"LuckLinksModel", "readTest", "()V"⟩, 75)]
theorem lw_r4 : ∀ q ∈ lw_privs_4, lw_okq q := List.forall_mem_cons.mpr ⟨lw_p48, List.forall_mem_cons.mpr ⟨lw_p49, List.forall_mem_cons.mpr ⟨lw_p50, List.forall_mem_cons.mpr ⟨lw_p51, List.forall_mem_cons.mpr ⟨lw_p52, List.forall_mem_cons.mpr ⟨lw_p53, List.forall_mem_cons.mpr ⟨lw_p54, List.forall_mem_cons.mpr ⟨lw_p55, List.forall_mem_cons.mpr ⟨lw_p56, List.forall_mem_cons.mpr ⟨lw_p57, List.forall_mem_cons.mpr ⟨lw_p58, List.forall_mem_cons.mpr ⟨lw_p59, List.forall_mem_cons.mpr ⟨lw_p60, List.forall_mem_cons.mpr ⟨lw_p61, List.forall_mem_cons.mpr ⟨lw_p62, List.forall_mem_cons.mpr ⟨lw_p63, fun _ h => absurd h List.not_mem_nil⟩⟩⟩⟩⟩⟩⟩⟩⟩⟩⟩⟩⟩⟩⟩⟩
theorem lw_p64 : lw_okq (⟨"LuckLinksModel", "wordHere", "()I"⟩, 75) := ⟨⟨by decide +kernel, by decide +kernel⟩, List.mem_of_getElem? (i := 1313) (by decide +kernel), List.mem_of_getElem? (i := 1689) (by decide +kernel), List.mem_of_getElem? (i := 1690) (by decide +kernel)⟩
theorem lw_p65 : lw_okq (⟨"LuckLinksModel", "step", "(IIII)V"⟩, 75) := ⟨⟨by decide +kernel, by decide +kernel⟩, List.mem_of_getElem? (i := 1313) (by decide +kernel), List.mem_of_getElem? (i := 1698) (by decide +kernel), List.mem_of_getElem? (i := 1699) (by decide +kernel)⟩
theorem lw_p66 : lw_okq (⟨"LuckLinksModel", "closes", "()Z"⟩, 75) := ⟨⟨by decide +kernel, by decide +kernel⟩, List.mem_of_getElem? (i := 1313) (by decide +kernel), List.mem_of_getElem? (i := 1702) (by decide +kernel), List.mem_of_getElem? (i := 1703) (by decide +kernel)⟩
theorem lw_p67 : lw_okq (⟨"LuckLinksModel", "takes", "()V"⟩, 75) := ⟨⟨by decide +kernel, by decide +kernel⟩, List.mem_of_getElem? (i := 1313) (by decide +kernel), List.mem_of_getElem? (i := 1708) (by decide +kernel), List.mem_of_getElem? (i := 1709) (by decide +kernel)⟩
theorem lw_p68 : lw_okq (⟨"LuckLinksModel", "weightOf", "(I)I"⟩, 75) := ⟨⟨by decide +kernel, by decide +kernel⟩, List.mem_of_getElem? (i := 1313) (by decide +kernel), List.mem_of_getElem? (i := 1720) (by decide +kernel), List.mem_of_getElem? (i := 1721) (by decide +kernel)⟩
theorem lw_p69 : lw_okq (⟨"LuckLinksModel", "draw", "(I)I"⟩, 75) := ⟨⟨by decide +kernel, by decide +kernel⟩, List.mem_of_getElem? (i := 1313) (by decide +kernel), List.mem_of_getElem? (i := 1731) (by decide +kernel), List.mem_of_getElem? (i := 1732) (by decide +kernel)⟩
theorem lw_p70 : lw_okq (⟨"LuckLinksModel", "drawDay", "(II)V"⟩, 75) := ⟨⟨by decide +kernel, by decide +kernel⟩, List.mem_of_getElem? (i := 1313) (by decide +kernel), List.mem_of_getElem? (i := 1740) (by decide +kernel), List.mem_of_getElem? (i := 1741) (by decide +kernel)⟩
theorem lw_p71 : lw_okq (⟨"LuckLinksModel", "putInOrder", "()V"⟩, 75) := ⟨⟨by decide +kernel, by decide +kernel⟩, List.mem_of_getElem? (i := 1313) (by decide +kernel), List.mem_of_getElem? (i := 1744) (by decide +kernel), List.mem_of_getElem? (i := 1745) (by decide +kernel)⟩
theorem lw_p72 : lw_okq (⟨"LuckLinksModel", "leastSum", "()I"⟩, 75) := ⟨⟨by decide +kernel, by decide +kernel⟩, List.mem_of_getElem? (i := 1313) (by decide +kernel), List.mem_of_getElem? (i := 1748) (by decide +kernel), List.mem_of_getElem? (i := 1749) (by decide +kernel)⟩
theorem lw_p73 : lw_okq (⟨"LuckLinksModel", "strokeOf", "(IIII)I"⟩, 75) := ⟨⟨by decide +kernel, by decide +kernel⟩, List.mem_of_getElem? (i := 1313) (by decide +kernel), List.mem_of_getElem? (i := 1752) (by decide +kernel), List.mem_of_getElem? (i := 1753) (by decide +kernel)⟩
theorem lw_p74 : lw_okq (⟨"LuckLinksModel", "holds", "(I)Z"⟩, 75) := ⟨⟨by decide +kernel, by decide +kernel⟩, List.mem_of_getElem? (i := 1313) (by decide +kernel), List.mem_of_getElem? (i := 1756) (by decide +kernel), List.mem_of_getElem? (i := 1757) (by decide +kernel)⟩
theorem lw_p75 : lw_okq (⟨"LuckLinksModel", "valueAt", "(II)I"⟩, 75) := ⟨⟨by decide +kernel, by decide +kernel⟩, List.mem_of_getElem? (i := 1313) (by decide +kernel), List.mem_of_getElem? (i := 1760) (by decide +kernel), List.mem_of_getElem? (i := 1761) (by decide +kernel)⟩
theorem lw_p76 : lw_okq (⟨"LuckLinksModel", "lineAt", "(I)I"⟩, 75) := ⟨⟨by decide +kernel, by decide +kernel⟩, List.mem_of_getElem? (i := 1313) (by decide +kernel), List.mem_of_getElem? (i := 1764) (by decide +kernel), List.mem_of_getElem? (i := 1765) (by decide +kernel)⟩
theorem lw_p77 : lw_okq (⟨"LuckLinksModel", "placeOf", "(II)I"⟩, 75) := ⟨⟨by decide +kernel, by decide +kernel⟩, List.mem_of_getElem? (i := 1313) (by decide +kernel), List.mem_of_getElem? (i := 1783) (by decide +kernel), List.mem_of_getElem? (i := 1784) (by decide +kernel)⟩
theorem lw_p78 : lw_okq (⟨"LuckLinksModel", "wholeSum", "(II)I"⟩, 75) := ⟨⟨by decide +kernel, by decide +kernel⟩, List.mem_of_getElem? (i := 1313) (by decide +kernel), List.mem_of_getElem? (i := 1787) (by decide +kernel), List.mem_of_getElem? (i := 1788) (by decide +kernel)⟩
theorem lw_p79 : lw_okq (⟨"LuckLinksModel", "countDay", "(III)V"⟩, 75) := ⟨⟨by decide +kernel, by decide +kernel⟩, List.mem_of_getElem? (i := 1313) (by decide +kernel), List.mem_of_getElem? (i := 1791) (by decide +kernel), List.mem_of_getElem? (i := 1792) (by decide +kernel)⟩
def lw_privs_5 : List (MethodName × Nat) := [(⟨"LuckLinksModel", "wordHere", "()I"⟩, 75), (⟨"LuckLinksModel", "step", "(IIII)V"⟩, 75), (⟨"LuckLinksModel", "closes", "()Z"⟩, 75), (⟨"LuckLinksModel", "takes", "()V"⟩, 75), (⟨"LuckLinksModel", "weightOf", "(I)I"⟩, 75), (⟨"LuckLinksModel", "draw", "(I)I"⟩, 75), (⟨"LuckLinksModel", "drawDay", "(II)V"⟩, 75), (⟨"LuckLinksModel", "putInOrder", "()V"⟩, 75), (⟨"LuckLinksModel", "leastSum", "()I"⟩, 75), (⟨"LuckLinksModel", "strokeOf", "(IIII)I"⟩, 75), (⟨"LuckLinksModel", "holds", "(I)Z"⟩, 75), (⟨"LuckLinksModel", "valueAt", "(II)I"⟩, 75), (⟨"LuckLinksModel", "lineAt", "(I)I"⟩, 75), (⟨"LuckLinksModel", "placeOf", "(II)I"⟩, 75), (⟨"LuckLinksModel", "wholeSum", "(II)I"⟩, 75), (⟨"LuckLinksModel", "countDay", "(III)V"⟩, 75)]
theorem lw_r5 : ∀ q ∈ lw_privs_5, lw_okq q := List.forall_mem_cons.mpr ⟨lw_p64, List.forall_mem_cons.mpr ⟨lw_p65, List.forall_mem_cons.mpr ⟨lw_p66, List.forall_mem_cons.mpr ⟨lw_p67, List.forall_mem_cons.mpr ⟨lw_p68, List.forall_mem_cons.mpr ⟨lw_p69, List.forall_mem_cons.mpr ⟨lw_p70, List.forall_mem_cons.mpr ⟨lw_p71, List.forall_mem_cons.mpr ⟨lw_p72, List.forall_mem_cons.mpr ⟨lw_p73, List.forall_mem_cons.mpr ⟨lw_p74, List.forall_mem_cons.mpr ⟨lw_p75, List.forall_mem_cons.mpr ⟨lw_p76, List.forall_mem_cons.mpr ⟨lw_p77, List.forall_mem_cons.mpr ⟨lw_p78, List.forall_mem_cons.mpr ⟨lw_p79, fun _ h => absurd h List.not_mem_nil⟩⟩⟩⟩⟩⟩⟩⟩⟩⟩⟩⟩⟩⟩⟩⟩
theorem lw_p80 : lw_okq (⟨"LuckLinksModel", "wonIn", "(IIZ)I"⟩, 75) := ⟨⟨by decide +kernel, by decide +kernel⟩, List.mem_of_getElem? (i := 1313) (by decide +kernel), List.mem_of_getElem? (i := 1802) (by decide +kernel), List.mem_of_getElem? (i := 1803) (by decide +kernel)⟩
theorem lw_p81 : lw_okq (⟨"LuckLinksModel", "sumTo", "(III)I"⟩, 75) := ⟨⟨by decide +kernel, by decide +kernel⟩, List.mem_of_getElem? (i := 1313) (by decide +kernel), List.mem_of_getElem? (i := 1810) (by decide +kernel), List.mem_of_getElem? (i := 1811) (by decide +kernel)⟩
theorem lw_p82 : lw_okq (⟨"LuckLinksModel", "leadsIn", "(III)V"⟩, 75) := ⟨⟨by decide +kernel, by decide +kernel⟩, List.mem_of_getElem? (i := 1313) (by decide +kernel), List.mem_of_getElem? (i := 1832) (by decide +kernel), List.mem_of_getElem? (i := 1833) (by decide +kernel)⟩
theorem lw_p83 : lw_okq (⟨"LuckLinksModel", "findSkill", "(IIII)V"⟩, 75) := ⟨⟨by decide +kernel, by decide +kernel⟩, List.mem_of_getElem? (i := 1313) (by decide +kernel), List.mem_of_getElem? (i := 1844) (by decide +kernel), List.mem_of_getElem? (i := 1845) (by decide +kernel)⟩
theorem lw_p84 : lw_okq (⟨"LuckLinksModel", "offOf", "(IIII)J"⟩, 75) := ⟨⟨by decide +kernel, by decide +kernel⟩, List.mem_of_getElem? (i := 1313) (by decide +kernel), List.mem_of_getElem? (i := 1848) (by decide +kernel), List.mem_of_getElem? (i := 1849) (by decide +kernel)⟩
theorem lw_p85 : lw_okq (⟨"LuckLinksModel", "played", "(II)Z"⟩, 75) := ⟨⟨by decide +kernel, by decide +kernel⟩, List.mem_of_getElem? (i := 1313) (by decide +kernel), List.mem_of_getElem? (i := 1858) (by decide +kernel), List.mem_of_getElem? (i := 1859) (by decide +kernel)⟩
theorem lw_p86 : lw_okq (⟨"LuckLinksModel", "bestOf", "(I)I"⟩, 75) := ⟨⟨by decide +kernel, by decide +kernel⟩, List.mem_of_getElem? (i := 1313) (by decide +kernel), List.mem_of_getElem? (i := 1867) (by decide +kernel), List.mem_of_getElem? (i := 1868) (by decide +kernel)⟩
theorem lw_p87 : lw_okq (⟨"LuckLinksModel", "findLot", "()V"⟩, 75) := ⟨⟨by decide +kernel, by decide +kernel⟩, List.mem_of_getElem? (i := 1313) (by decide +kernel), List.mem_of_getElem? (i := 1879) (by decide +kernel), List.mem_of_getElem? (i := 1880) (by decide +kernel)⟩
theorem lw_p88 : lw_okq (⟨"LuckLinksModel", "skillBy", "(I)I"⟩, 75) := ⟨⟨by decide +kernel, by decide +kernel⟩, List.mem_of_getElem? (i := 1313) (by decide +kernel), List.mem_of_getElem? (i := 1884) (by decide +kernel), List.mem_of_getElem? (i := 1885) (by decide +kernel)⟩
theorem lw_p89 : lw_okq (⟨"LuckLinksModel", "findOnce", "()V"⟩, 75) := ⟨⟨by decide +kernel, by decide +kernel⟩, List.mem_of_getElem? (i := 1313) (by decide +kernel), List.mem_of_getElem? (i := 1892) (by decide +kernel), List.mem_of_getElem? (i := 1893) (by decide +kernel)⟩
theorem lw_p90 : lw_okq (⟨"LuckLinksModel", "lastsBy", "(IIIII)I"⟩, 75) := ⟨⟨by decide +kernel, by decide +kernel⟩, List.mem_of_getElem? (i := 1313) (by decide +kernel), List.mem_of_getElem? (i := 1904) (by decide +kernel), List.mem_of_getElem? (i := 1905) (by decide +kernel)⟩
theorem lw_p91 : lw_okq (⟨"LuckLinksModel", "findHalves", "(IIII)V"⟩, 75) := ⟨⟨by decide +kernel, by decide +kernel⟩, List.mem_of_getElem? (i := 1313) (by decide +kernel), List.mem_of_getElem? (i := 1908) (by decide +kernel), List.mem_of_getElem? (i := 1909) (by decide +kernel)⟩
theorem lw_p92 : lw_okq (⟨"LuckLinksModel", "orderOf", "(II)I"⟩, 75) := ⟨⟨by decide +kernel, by decide +kernel⟩, List.mem_of_getElem? (i := 1313) (by decide +kernel), List.mem_of_getElem? (i := 1912) (by decide +kernel), List.mem_of_getElem? (i := 1913) (by decide +kernel)⟩
theorem lw_p93 : lw_okq (⟨"LuckLinksModel", "findPoints", "(III)V"⟩, 75) := ⟨⟨by decide +kernel, by decide +kernel⟩, List.mem_of_getElem? (i := 1313) (by decide +kernel), List.mem_of_getElem? (i := 1929) (by decide +kernel), List.mem_of_getElem? (i := 1930) (by decide +kernel)⟩
theorem lw_p94 : lw_okq (⟨"LuckLinksModel", "rankOf", "(I)I"⟩, 75) := ⟨⟨by decide +kernel, by decide +kernel⟩, List.mem_of_getElem? (i := 1313) (by decide +kernel), List.mem_of_getElem? (i := 1933) (by decide +kernel), List.mem_of_getElem? (i := 1934) (by decide +kernel)⟩
theorem lw_p95 : lw_okq (⟨"LuckLinksModel", "firstOnes", "(I)I"⟩, 75) := ⟨⟨by decide +kernel, by decide +kernel⟩, List.mem_of_getElem? (i := 1313) (by decide +kernel), List.mem_of_getElem? (i := 1941) (by decide +kernel), List.mem_of_getElem? (i := 1942) (by decide +kernel)⟩
def lw_privs_6 : List (MethodName × Nat) := [(⟨"LuckLinksModel", "wonIn", "(IIZ)I"⟩, 75), (⟨"LuckLinksModel", "sumTo", "(III)I"⟩, 75), (⟨"LuckLinksModel", "leadsIn", "(III)V"⟩, 75), (⟨"LuckLinksModel", "findSkill", "(IIII)V"⟩, 75), (⟨"LuckLinksModel", "offOf", "(IIII)J"⟩, 75), (⟨"LuckLinksModel", "played", "(II)Z"⟩, 75), (⟨"LuckLinksModel", "bestOf", "(I)I"⟩, 75), (⟨"LuckLinksModel", "findLot", "()V"⟩, 75), (⟨"LuckLinksModel", "skillBy", "(I)I"⟩, 75), (⟨"LuckLinksModel", "findOnce", "()V"⟩, 75), (⟨"LuckLinksModel", "lastsBy", "(IIIII)I"⟩, 75), (⟨"LuckLinksModel", "findHalves", "(IIII)V"⟩, 75), (⟨"LuckLinksModel", "orderOf", "(II)I"⟩, 75), (⟨"LuckLinksModel", "findPoints", "(III)V"⟩, 75), (⟨"LuckLinksModel", "rankOf", "(I)I"⟩, 75), (⟨"LuckLinksModel", "firstOnes", "(I)I"⟩, 75)]
theorem lw_r6 : ∀ q ∈ lw_privs_6, lw_okq q := List.forall_mem_cons.mpr ⟨lw_p80, List.forall_mem_cons.mpr ⟨lw_p81, List.forall_mem_cons.mpr ⟨lw_p82, List.forall_mem_cons.mpr ⟨lw_p83, List.forall_mem_cons.mpr ⟨lw_p84, List.forall_mem_cons.mpr ⟨lw_p85, List.forall_mem_cons.mpr ⟨lw_p86, List.forall_mem_cons.mpr ⟨lw_p87, List.forall_mem_cons.mpr ⟨lw_p88, List.forall_mem_cons.mpr ⟨lw_p89, List.forall_mem_cons.mpr ⟨lw_p90, List.forall_mem_cons.mpr ⟨lw_p91, List.forall_mem_cons.mpr ⟨lw_p92, List.forall_mem_cons.mpr ⟨lw_p93, List.forall_mem_cons.mpr ⟨lw_p94, List.forall_mem_cons.mpr ⟨lw_p95, fun _ h => absurd h List.not_mem_nil⟩⟩⟩⟩⟩⟩⟩⟩⟩⟩⟩⟩⟩⟩⟩⟩
theorem lw_p96 : lw_okq (⟨"LuckLinksModel", "lastOff", "(II)I"⟩, 75) := ⟨⟨by decide +kernel, by decide +kernel⟩, List.mem_of_getElem? (i := 1313) (by decide +kernel), List.mem_of_getElem? (i := 1952) (by decide +kernel), List.mem_of_getElem? (i := 1953) (by decide +kernel)⟩
theorem lw_p97 : lw_okq (⟨"LuckLinksModel", "findWorth", "(III)V"⟩, 75) := ⟨⟨by decide +kernel, by decide +kernel⟩, List.mem_of_getElem? (i := 1313) (by decide +kernel), List.mem_of_getElem? (i := 1964) (by decide +kernel), List.mem_of_getElem? (i := 1965) (by decide +kernel)⟩
theorem lw_p98 : lw_okq (⟨"LuckLinksModel", "findPressed", "(I)V"⟩, 75) := ⟨⟨by decide +kernel, by decide +kernel⟩, List.mem_of_getElem? (i := 1313) (by decide +kernel), List.mem_of_getElem? (i := 1976) (by decide +kernel), List.mem_of_getElem? (i := 1977) (by decide +kernel)⟩
def lw_privs_7 : List (MethodName × Nat) := [(⟨"LuckLinksModel", "lastOff", "(II)I"⟩, 75), (⟨"LuckLinksModel", "findWorth", "(III)V"⟩, 75), (⟨"LuckLinksModel", "findPressed", "(I)V"⟩, 75)]
theorem lw_r7 : ∀ q ∈ lw_privs_7, lw_okq q := List.forall_mem_cons.mpr ⟨lw_p96, List.forall_mem_cons.mpr ⟨lw_p97, List.forall_mem_cons.mpr ⟨lw_p98, fun _ h => absurd h List.not_mem_nil⟩⟩⟩
def lw_privs : List (MethodName × Nat) := lw_privs_1 ++ (lw_privs_2 ++ (lw_privs_3 ++ (lw_privs_4 ++ (lw_privs_5 ++ (lw_privs_6 ++ (lw_privs_7))))))
def lw_tbl : List Cond := k2_sels lw_privs ++ tables_1
theorem lw_privs_ok : ∀ q ∈ lw_privs, lw_okq q := by
  show ∀ q ∈ lw_privs_1 ++ (lw_privs_2 ++ (lw_privs_3 ++ (lw_privs_4 ++ (lw_privs_5 ++ (lw_privs_6 ++ (lw_privs_7)))))), lw_okq q
  exact List.forall_mem_append.mpr ⟨lw_r1, List.forall_mem_append.mpr ⟨lw_r2, List.forall_mem_append.mpr ⟨lw_r3, List.forall_mem_append.mpr ⟨lw_r4, List.forall_mem_append.mpr ⟨lw_r5, List.forall_mem_append.mpr ⟨lw_r6, lw_r7⟩⟩⟩⟩⟩⟩
-- ===== end of PART A; then your names; then what follows =====
/-! ===== BEGIN words of one list among another's, by their places ===== -/
theorem goodIn_r {big : List Cond} (ws : List Cond) (ps : List Nat) (hp : ws = ps.filterMap (fun i => big[i]?)) (h : ws.all goodWord = true) : GoodIn big ws := by
  intro w hw
  have h1 := List.all_eq_true.mp h w hw
  rw [hp] at hw
  obtain ⟨i, -, hi⟩ := List.mem_filterMap.mp hw
  have hm : w ∈ big := by first | exact List.mem_of_getElem? hi | exact List.getElem?_mem hi
  exact ⟨hm, good_of_word h1⟩
theorem goodIn_app {big a b : List Cond} (ha : GoodIn big a) (hb : GoodIn big b) : GoodIn big (a ++ b) := fun w h => (List.mem_append.mp h).elim (ha w) (hb w)
theorem goodIn_ca {big a b : List Cond} {c : Cond} (ha : GoodIn big (c :: a)) (hb : GoodIn big b) : GoodIn big (c :: (a ++ b)) := fun w h => (List.mem_cons.mp h).elim (fun e => ha w (List.mem_cons.mpr (Or.inl e))) (fun h => (List.mem_append.mp h).elim (fun h => ha w (List.mem_cons.mpr (Or.inr h))) (hb w))
theorem goodIn_sub {big ws : List Cond} (hm : ∀ w ∈ ws, w ∈ big) (h : ws.all goodWord = true) : GoodIn big ws := fun w hw => ⟨hm w hw, good_of_word (List.all_eq_true.mp h w hw)⟩
/-! ===== END ===== -/

/-! ===== BEGIN printed: names, fields, word lists, decode rows ===== -/
def RX0 : String := "LuckLinks$Chances"
def TX0 : u_T := fun k => match k with
  | 0 => ("LuckLinks$Chances", "lot", "[J", true)
  | 1 => ("LuckLinks$Chances", "waysSoFar", "[J", true)
  | 2 => ("LuckLinks$Chances", "lotFrom", "[J", true)
  | 3 => ("LuckLinks$Chances", "step", "[J", true)
  | 4 => ("LuckLinks$Chances", "gap", "[J", true)
  | 5 => ("LuckLinks$Chances", "nextGap", "[J", true)
  | 6 => ("LuckLinks$Chances", "greatestStep", "J", false)
  | 7 => ("LuckLinks$Chances", "reach", "I", false)
  | _ => ("LuckLinks$Chances", "strokes", "[I", true)
def tyX0 : Nat → FieldType := fun k => match k with
  | 0 => .array .long
  | 1 => .array .long
  | 2 => .array .long
  | 3 => .array .long
  | 4 => .array .long
  | 5 => .array .long
  | 6 => .long
  | 7 => .int
  | _ => .array .int
abbrev wsX00 : List Cond := u_ws RX0 TX0 9
theorem nmX0 : ∀ a, a < 9 → ∀ b, b < 9 → a ≠ b → (TX0 a).2.1 ≠ (TX0 b).2.1 := by decide +kernel
theorem tyX0_ok : ∀ k, k < 9 → parseFieldDescriptor (TX0 k).2.2.1 = some (tyX0 k) := by decide +kernel
abbrev cX0_init : ByteArray := prog_2_method_1_code
def yX0_init : MethodName := ⟨RX0, "<init>", "()V"⟩
abbrev cX0_setStrokes : ByteArray := prog_2_method_2_code
def yX0_setStrokes : MethodName := ⟨RX0, "setStrokes", "(II)V"⟩
abbrev cX0_fillLot : ByteArray := prog_2_method_3_code
def yX0_fillLot : MethodName := ⟨RX0, "fillLot", "(LLuckLinks$Law;)V"⟩
abbrev cX0_addDraw : ByteArray := prog_2_method_4_code
def yX0_addDraw : MethodName := ⟨RX0, "addDraw", "(I)V"⟩
abbrev cX0_winning : ByteArray := prog_2_method_5_code
def yX0_winning : MethodName := ⟨RX0, "winning", "(IILLuckLinks$Law;)I"⟩
abbrev cX0_lotAbove : ByteArray := prog_2_method_6_code
def yX0_lotAbove : MethodName := ⟨RX0, "lotAbove", "(I)J"⟩
abbrev cX0_roundsNeeded : ByteArray := prog_2_method_7_code
def yX0_roundsNeeded : MethodName := ⟨RX0, "roundsNeeded", "(IILLuckLinks$Law;)I"⟩
abbrev cX0_fillStep : ByteArray := prog_2_method_8_code
def yX0_fillStep : MethodName := ⟨RX0, "fillStep", "()V"⟩
abbrev cX0_gapsAbove : ByteArray := prog_2_method_9_code
def yX0_gapsAbove : MethodName := ⟨RX0, "gapsAbove", "(II)J"⟩
abbrev cX0_addStep : ByteArray := prog_2_method_10_code
def yX0_addStep : MethodName := ⟨RX0, "addStep", "(I)V"⟩
def RX1 : String := "LuckLinks$Form"
def TX1 : u_T := fun k => match k with
  | 0 => ("LuckLinks$Form", "world", "LLuckLinks$World;", true)
  | 1 => ("LuckLinks$Form", "offs", "[J", true)
  | 2 => ("LuckLinks$Form", "many", "[I", true)
  | 3 => ("LuckLinks$Form", "upper", "J", false)
  | _ => ("LuckLinks$Form", "lower", "J", false)
def tyX1 : Nat → FieldType := fun k => match k with
  | 0 => .object "LuckLinks$World"
  | 1 => .array .long
  | 2 => .array .int
  | 3 => .long
  | _ => .long
abbrev wsX10 : List Cond := u_ws RX1 TX1 5
theorem nmX1 : ∀ a, a < 5 → ∀ b, b < 5 → a ≠ b → (TX1 a).2.1 ≠ (TX1 b).2.1 := by decide +kernel
theorem tyX1_ok : ∀ k, k < 5 → parseFieldDescriptor (TX1 k).2.2.1 = some (tyX1 k) := by decide +kernel
abbrev cX1_init : ByteArray := prog_3_method_1_code
def yX1_init : MethodName := ⟨RX1, "<init>", "(LLuckLinks$World;)V"⟩
abbrev cX1_gather : ByteArray := prog_3_method_2_code
def yX1_gather : MethodName := ⟨RX1, "gather", "(II)V"⟩
abbrev cX1_gatherAll : ByteArray := prog_3_method_3_code
def yX1_gatherAll : MethodName := ⟨RX1, "gatherAll", "()V"⟩
abbrev cX1_isRow : ByteArray := prog_3_method_4_code
def yX1_isRow : MethodName := ⟨RX1, "isRow", "(II)Z"⟩
abbrev cX1_roundsIn : ByteArray := prog_3_method_5_code
def yX1_roundsIn : MethodName := ⟨RX1, "roundsIn", "(II)I"⟩
abbrev cX1_offsIn : ByteArray := prog_3_method_6_code
def yX1_offsIn : MethodName := ⟨RX1, "offsIn", "(II)J"⟩
abbrev cX1_weigh : ByteArray := prog_3_method_7_code
def yX1_weigh : MethodName := ⟨RX1, "weigh", "(IILLuckLinks$Law;)V"⟩
abbrev cX1_giveSkill : ByteArray := prog_3_method_8_code
def yX1_giveSkill : MethodName := ⟨RX1, "giveSkill", "(LLuckLinks$Ratio;)V"⟩
abbrev cX1_spanOf : ByteArray := prog_3_method_9_code
def yX1_spanOf : MethodName := ⟨RX1, "spanOf", "(IIILLuckLinks$Law;)I"⟩
abbrev cX1_bestAhead : ByteArray := prog_3_method_10_code
def yX1_bestAhead : MethodName := ⟨RX1, "bestAhead", "(ILLuckLinks$Law;)I"⟩
abbrev cX1_longestBest : ByteArray := prog_3_method_11_code
def yX1_longestBest : MethodName := ⟨RX1, "longestBest", "(ILLuckLinks$Law;)I"⟩
abbrev cX1_wholeSkill : ByteArray := prog_3_method_12_code
def yX1_wholeSkill : MethodName := ⟨RX1, "wholeSkill", "(IILLuckLinks$Law;)I"⟩
abbrev cX1_missed : ByteArray := prog_3_method_13_code
def yX1_missed : MethodName := ⟨RX1, "missed", "(IILLuckLinks$Law;)I"⟩
abbrev cX1_foretold : ByteArray := prog_3_method_14_code
def yX1_foretold : MethodName := ⟨RX1, "foretold", "(IIILLuckLinks$Law;)I"⟩
abbrev cX1_latest : ByteArray := prog_3_method_15_code
def yX1_latest : MethodName := ⟨RX1, "latest", "(II)I"⟩
abbrev cX1_hundredths : ByteArray := prog_3_method_16_code
def yX1_hundredths : MethodName := ⟨RX1, "hundredths", "(JJ)I"⟩
def RX2 : String := "LuckLinks$Halves"
def TX2 : u_T := fun k => match k with
  | 0 => ("LuckLinks$Halves", "world", "LLuckLinks$World;", true)
  | 1 => ("LuckLinks$Halves", "firstOffs", "[J", true)
  | 2 => ("LuckLinks$Halves", "firstRounds", "[J", true)
  | 3 => ("LuckLinks$Halves", "laterOffs", "[J", true)
  | 4 => ("LuckLinks$Halves", "laterRounds", "[J", true)
  | 5 => ("LuckLinks$Halves", "alike", "I", false)
  | 6 => ("LuckLinks$Halves", "unlike", "I", false)
  | _ => ("LuckLinks$Halves", "inBoth", "I", false)
def tyX2 : Nat → FieldType := fun k => match k with
  | 0 => .object "LuckLinks$World"
  | 1 => .array .long
  | 2 => .array .long
  | 3 => .array .long
  | 4 => .array .long
  | 5 => .int
  | 6 => .int
  | _ => .int
abbrev wsX20 : List Cond := u_ws RX2 TX2 8
theorem nmX2 : ∀ a, a < 8 → ∀ b, b < 8 → a ≠ b → (TX2 a).2.1 ≠ (TX2 b).2.1 := by decide +kernel
theorem tyX2_ok : ∀ k, k < 8 → parseFieldDescriptor (TX2 k).2.2.1 = some (tyX2 k) := by decide +kernel
abbrev cX2_init : ByteArray := prog_4_method_1_code
def yX2_init : MethodName := ⟨RX2, "<init>", "(LLuckLinks$World;)V"⟩
abbrev cX2_compareHalves : ByteArray := prog_4_method_2_code
def yX2_compareHalves : MethodName := ⟨RX2, "compareHalves", "(IIII)V"⟩
abbrev cX2_gatherHalf : ByteArray := prog_4_method_3_code
def yX2_gatherHalf : MethodName := ⟨RX2, "gatherHalf", "(III[J[J)V"⟩
abbrev cX2_isInBoth : ByteArray := prog_4_method_4_code
def yX2_isInBoth : MethodName := ⟨RX2, "isInBoth", "(I)Z"⟩
abbrev cX2_compareWithThoseAhead : ByteArray := prog_4_method_5_code
def yX2_compareWithThoseAhead : MethodName := ⟨RX2, "compareWithThoseAhead", "(I)V"⟩
abbrev cX2_compareMeans : ByteArray := prog_4_method_6_code
def yX2_compareMeans : MethodName := ⟨RX2, "compareMeans", "([J[JII)I"⟩
abbrev cX2_lastingPart : ByteArray := prog_4_method_7_code
def yX2_lastingPart : MethodName := ⟨RX2, "lastingPart", "(III)I"⟩
def RX3 : String := "LuckLinks$Law"
def TX3 : u_T := fun k => match k with
  | 0 => ("LuckLinks$Law", "rules", "I", false)
  | 1 => ("LuckLinks$Law", "drifts", "[I", true)
  | 2 => ("LuckLinks$Law", "lucks", "[I", true)
  | 3 => ("LuckLinks$Law", "keeps", "[I", true)
  | 4 => ("LuckLinks$Law", "prizes", "[I", true)
  | 5 => ("LuckLinks$Law", "points", "[I", true)
  | 6 => ("LuckLinks$Law", "weights", "[I", true)
  | 7 => ("LuckLinks$Law", "weightsByAge", "[I", true)
  | 8 => ("LuckLinks$Law", "hourRules", "I", false)
  | 9 => ("LuckLinks$Law", "hourParts", "[I", true)
  | 10 => ("LuckLinks$Law", "hourStrokes", "[I", true)
  | 11 => ("LuckLinks$Law", "hourFroms", "[I", true)
  | 12 => ("LuckLinks$Law", "pressRules", "I", false)
  | 13 => ("LuckLinks$Law", "pressParts", "[I", true)
  | 14 => ("LuckLinks$Law", "pressStrokes", "[I", true)
  | 15 => ("LuckLinks$Law", "pressEnds", "[I", true)
  | 16 => ("LuckLinks$Law", "code", "[I", true)
  | 17 => ("LuckLinks$Law", "codeLength", "I", false)
  | _ => ("LuckLinks$Law", "stack", "[Z", true)
def tyX3 : Nat → FieldType := fun k => match k with
  | 0 => .int
  | 1 => .array .int
  | 2 => .array .int
  | 3 => .array .int
  | 4 => .array .int
  | 5 => .array .int
  | 6 => .array .int
  | 7 => .array .int
  | 8 => .int
  | 9 => .array .int
  | 10 => .array .int
  | 11 => .array .int
  | 12 => .int
  | 13 => .array .int
  | 14 => .array .int
  | 15 => .array .int
  | 16 => .array .int
  | 17 => .int
  | _ => .array .boolean
abbrev wsX30 : List Cond := u_ws RX3 TX3 19
theorem nmX3 : ∀ a, a < 19 → ∀ b, b < 19 → a ≠ b → (TX3 a).2.1 ≠ (TX3 b).2.1 := by decide +kernel
theorem tyX3_ok : ∀ k, k < 19 → parseFieldDescriptor (TX3 k).2.2.1 = some (tyX3 k) := by decide +kernel
abbrev cX3_init : ByteArray := prog_5_method_1_code
def yX3_init : MethodName := ⟨RX3, "<init>", "()V"⟩
abbrev cX3_clear : ByteArray := prog_5_method_2_code
def yX3_clear : MethodName := ⟨RX3, "clear", "()V"⟩
abbrev cX3_addHour : ByteArray := prog_5_method_3_code
def yX3_addHour : MethodName := ⟨RX3, "addHour", "(III)V"⟩
abbrev cX3_addPress : ByteArray := prog_5_method_4_code
def yX3_addPress : MethodName := ⟨RX3, "addPress", "(II)V"⟩
abbrev cX3_emit : ByteArray := prog_5_method_5_code
def yX3_emit : MethodName := ⟨RX3, "emit", "(I)V"⟩
abbrev cX3_spreadWeights : ByteArray := prog_5_method_6_code
def yX3_spreadWeights : MethodName := ⟨RX3, "spreadWeights", "()V"⟩
abbrev cX3_weightOf : ByteArray := prog_5_method_7_code
def yX3_weightOf : MethodName := ⟨RX3, "weightOf", "(I)I"⟩
abbrev cX3_strokesByHour : ByteArray := prog_5_method_8_code
def yX3_strokesByHour : MethodName := ⟨RX3, "strokesByHour", "(II)I"⟩
abbrev cX3_strokesByPress : ByteArray := prog_5_method_9_code
def yX3_strokesByPress : MethodName := ⟨RX3, "strokesByPress", "(I[I)I"⟩
abbrev cX3_holds : ByteArray := prog_5_method_10_code
def yX3_holds : MethodName := ⟨RX3, "holds", "(II[I)Z"⟩
abbrev cX3_compares : ByteArray := prog_5_method_11_code
def yX3_compares : MethodName := ⟨RX3, "compares", "(I[I)Z"⟩
def RX4 : String := "LuckLinks$LawReader"
def TX4 : u_T := fun k => match k with
  | 0 => ("LuckLinks$LawReader", "text", "[B", false)
  | 1 => ("LuckLinks$LawReader", "law", "LLuckLinks$Law;", false)
  | 2 => ("LuckLinks$LawReader", "kinds", "[I", true)
  | 3 => ("LuckLinks$LawReader", "starts", "[I", true)
  | 4 => ("LuckLinks$LawReader", "ends", "[I", true)
  | 5 => ("LuckLinks$LawReader", "at", "I", false)
  | 6 => ("LuckLinks$LawReader", "number", "I", false)
  | 7 => ("LuckLinks$LawReader", "part", "I", false)
  | 8 => ("LuckLinks$LawReader", "waiting", "[I", true)
  | 9 => ("LuckLinks$LawReader", "waits", "I", false)
  | 10 => ("LuckLinks$LawReader", "open", "I", false)
  | _ => ("LuckLinks$LawReader", "brackets", "I", false)
def tyX4 : Nat → FieldType := fun k => match k with
  | 0 => .array .byte
  | 1 => .object "LuckLinks$Law"
  | 2 => .array .int
  | 3 => .array .int
  | 4 => .array .int
  | 5 => .int
  | 6 => .int
  | 7 => .int
  | 8 => .array .int
  | 9 => .int
  | 10 => .int
  | _ => .int
abbrev wsX40 : List Cond := u_ws RX4 TX4 12
theorem nmX4 : ∀ a, a < 12 → ∀ b, b < 12 → a ≠ b → (TX4 a).2.1 ≠ (TX4 b).2.1 := by decide +kernel
theorem tyX4_ok : ∀ k, k < 12 → parseFieldDescriptor (TX4 k).2.2.1 = some (tyX4 k) := by decide +kernel
abbrev cX4_init : ByteArray := prog_6_method_1_code
def yX4_init : MethodName := ⟨RX4, "<init>", "()V"⟩
abbrev cX4_readLaw : ByteArray := prog_6_method_2_code
def yX4_readLaw : MethodName := ⟨RX4, "readLaw", "([BILLuckLinks$Law;)I"⟩
abbrev cX4_split : ByteArray := prog_6_method_3_code
def yX4_split : MethodName := ⟨RX4, "split", "(I)V"⟩
abbrev cX4_kindOf : ByteArray := prog_6_method_4_code
def yX4_kindOf : MethodName := ⟨RX4, "kindOf", "(B)I"⟩
abbrev cX4_readRule : ByteArray := prog_6_method_5_code
def yX4_readRule : MethodName := ⟨RX4, "readRule", "()Z"⟩
abbrev cX4_readAmount : ByteArray := prog_6_method_6_code
def yX4_readAmount : MethodName := ⟨RX4, "readAmount", "([I)Z"⟩
abbrev cX4_readEntry : ByteArray := prog_6_method_7_code
def yX4_readEntry : MethodName := ⟨RX4, "readEntry", "([III)Z"⟩
abbrev cX4_readHour : ByteArray := prog_6_method_8_code
def yX4_readHour : MethodName := ⟨RX4, "readHour", "()Z"⟩
abbrev cX4_readPress : ByteArray := prog_6_method_9_code
def yX4_readPress : MethodName := ⟨RX4, "readPress", "()Z"⟩
abbrev cX4_readAny : ByteArray := prog_6_method_10_code
def yX4_readAny : MethodName := ⟨RX4, "readAny", "()Z"⟩
abbrev cX4_await : ByteArray := prog_6_method_11_code
def yX4_await : MethodName := ⟨RX4, "await", "(I)V"⟩
abbrev cX4_emitDownTo : ByteArray := prog_6_method_12_code
def yX4_emitDownTo : MethodName := ⟨RX4, "emitDownTo", "(I)V"⟩
abbrev cX4_endOne : ByteArray := prog_6_method_13_code
def yX4_endOne : MethodName := ⟨RX4, "endOne", "()V"⟩
abbrev cX4_takeJoin : ByteArray := prog_6_method_14_code
def yX4_takeJoin : MethodName := ⟨RX4, "takeJoin", "()I"⟩
abbrev cX4_readComparison : ByteArray := prog_6_method_15_code
def yX4_readComparison : MethodName := ⟨RX4, "readComparison", "()Z"⟩
abbrev cX4_wordAt : ByteArray := prog_6_method_16_code
def yX4_wordAt : MethodName := ⟨RX4, "wordAt", "(I)Ljava/lang/String;"⟩
abbrev cX4_signAt : ByteArray := prog_6_method_17_code
def yX4_signAt : MethodName := ⟨RX4, "signAt", "(I)C"⟩
abbrev cX4_partAt : ByteArray := prog_6_method_18_code
def yX4_partAt : MethodName := ⟨RX4, "partAt", "(I)Ljava/lang/String;"⟩
abbrev cX4_step : ByteArray := prog_6_method_19_code
def yX4_step : MethodName := ⟨RX4, "step", "()V"⟩
abbrev cX4_takePart : ByteArray := prog_6_method_20_code
def yX4_takePart : MethodName := ⟨RX4, "takePart", "()Z"⟩
abbrev cX4_takeWord : ByteArray := prog_6_method_21_code
def yX4_takeWord : MethodName := ⟨RX4, "takeWord", "(Ljava/lang/String;)Z"⟩
abbrev cX4_takeSign : ByteArray := prog_6_method_22_code
def yX4_takeSign : MethodName := ⟨RX4, "takeSign", "(C)Z"⟩
abbrev cX4_takeNumber : ByteArray := prog_6_method_23_code
def yX4_takeNumber : MethodName := ⟨RX4, "takeNumber", "(II)Z"⟩
def RX5 : String := "LuckLinks$Ranking"
def TX5 : u_T := fun k => match k with
  | 0 => ("LuckLinks$Ranking", "who", "[I", true)
  | 1 => ("LuckLinks$Ranking", "keys", "[I", true)
  | _ => ("LuckLinks$Ranking", "size", "I", false)
def tyX5 : Nat → FieldType := fun k => match k with
  | 0 => .array .int
  | 1 => .array .int
  | _ => .int
abbrev wsX50 : List Cond := u_ws RX5 TX5 3
theorem nmX5 : ∀ a, a < 3 → ∀ b, b < 3 → a ≠ b → (TX5 a).2.1 ≠ (TX5 b).2.1 := by decide +kernel
theorem tyX5_ok : ∀ k, k < 3 → parseFieldDescriptor (TX5 k).2.2.1 = some (tyX5 k) := by decide +kernel
abbrev cX5_init : ByteArray := prog_7_method_1_code
def yX5_init : MethodName := ⟨RX5, "<init>", "()V"⟩
abbrev cX5_clear : ByteArray := prog_7_method_2_code
def yX5_clear : MethodName := ⟨RX5, "clear", "()V"⟩
abbrev cX5_add : ByteArray := prog_7_method_3_code
def yX5_add : MethodName := ⟨RX5, "add", "(II)V"⟩
abbrev cX5_size : ByteArray := prog_7_method_4_code
def yX5_size : MethodName := ⟨RX5, "size", "()I"⟩
abbrev cX5_whoAt : ByteArray := prog_7_method_5_code
def yX5_whoAt : MethodName := ⟨RX5, "whoAt", "(I)I"⟩
abbrev cX5_keyAt : ByteArray := prog_7_method_6_code
def yX5_keyAt : MethodName := ⟨RX5, "keyAt", "(I)I"⟩
abbrev cX5_lesserThan : ByteArray := prog_7_method_7_code
def yX5_lesserThan : MethodName := ⟨RX5, "lesserThan", "(I)I"⟩
abbrev cX5_asMuchAs : ByteArray := prog_7_method_8_code
def yX5_asMuchAs : MethodName := ⟨RX5, "asMuchAs", "(I)I"⟩
def RX6 : String := "LuckLinks$Ratio"
def TX6 : u_T := fun k => match k with
  | 0 => ("LuckLinks$Ratio", "upper", "J", false)
  | _ => ("LuckLinks$Ratio", "lower", "J", false)
def tyX6 : Nat → FieldType := fun k => match k with
  | 0 => .long
  | _ => .long
abbrev wsX60 : List Cond := u_ws RX6 TX6 2
theorem nmX6 : ∀ a, a < 2 → ∀ b, b < 2 → a ≠ b → (TX6 a).2.1 ≠ (TX6 b).2.1 := by decide +kernel
theorem tyX6_ok : ∀ k, k < 2 → parseFieldDescriptor (TX6 k).2.2.1 = some (tyX6 k) := by decide +kernel
abbrev cX6_init : ByteArray := prog_8_method_1_code
def yX6_init : MethodName := ⟨RX6, "<init>", "()V"⟩
abbrev cX6_setNone : ByteArray := prog_8_method_2_code
def yX6_setNone : MethodName := ⟨RX6, "setNone", "()V"⟩
abbrev cX6_set : ByteArray := prog_8_method_3_code
def yX6_set : MethodName := ⟨RX6, "set", "(JJ)V"⟩
abbrev cX6_multiply : ByteArray := prog_8_method_4_code
def yX6_multiply : MethodName := ⟨RX6, "multiply", "(JJ)V"⟩
abbrev cX6_pick : ByteArray := prog_8_method_5_code
def yX6_pick : MethodName := ⟨RX6, "pick", "(IJ)J"⟩
abbrev cX6_divisorOf : ByteArray := prog_8_method_6_code
def yX6_divisorOf : MethodName := ⟨RX6, "divisorOf", "(JJ)J"⟩
def RX7 : String := "LuckLinks$Standings"
def TX7 : u_T := fun k => match k with
  | 0 => ("LuckLinks$Standings", "world", "LLuckLinks$World;", true)
  | 1 => ("LuckLinks$Standings", "ranking", "LLuckLinks$Ranking;", true)
  | _ => ("LuckLinks$Standings", "gains", "[I", true)
def tyX7 : Nat → FieldType := fun k => match k with
  | 0 => .object "LuckLinks$World"
  | 1 => .object "LuckLinks$Ranking"
  | _ => .array .int
abbrev wsX70 : List Cond := u_ws RX7 TX7 3
theorem nmX7 : ∀ a, a < 3 → ∀ b, b < 3 → a ≠ b → (TX7 a).2.1 ≠ (TX7 b).2.1 := by decide +kernel
theorem tyX7_ok : ∀ k, k < 3 → parseFieldDescriptor (TX7 k).2.2.1 = some (tyX7 k) := by decide +kernel
abbrev cX7_init : ByteArray := prog_9_method_1_code
def yX7_init : MethodName := ⟨RX7, "<init>", "(LLuckLinks$World;)V"⟩
abbrev cX7_lastDayOf : ByteArray := prog_9_method_2_code
def yX7_lastDayOf : MethodName := ⟨RX7, "lastDayOf", "(I)I"⟩
abbrev cX7_rankBySums : ByteArray := prog_9_method_3_code
def yX7_rankBySums : MethodName := ⟨RX7, "rankBySums", "(II)V"⟩
abbrev cX7_placeOf : ByteArray := prog_9_method_4_code
def yX7_placeOf : MethodName := ⟨RX7, "placeOf", "(II)I"⟩
abbrev cX7_shareIn : ByteArray := prog_9_method_5_code
def yX7_shareIn : MethodName := ⟨RX7, "shareIn", "(III[I)I"⟩
abbrev cX7_addShares : ByteArray := prog_9_method_6_code
def yX7_addShares : MethodName := ⟨RX7, "addShares", "(I[I)V"⟩
abbrev cX7_cutOn : ByteArray := prog_9_method_7_code
def yX7_cutOn : MethodName := ⟨RX7, "cutOn", "(IIII)I"⟩
abbrev cX7_leadersOf : ByteArray := prog_9_method_8_code
def yX7_leadersOf : MethodName := ⟨RX7, "leadersOf", "(IIII)I"⟩
abbrev cX7_rankByGains : ByteArray := prog_9_method_9_code
def yX7_rankByGains : MethodName := ⟨RX7, "rankByGains", "(III[I)V"⟩
abbrev cX7_listedAt : ByteArray := prog_9_method_10_code
def yX7_listedAt : MethodName := ⟨RX7, "listedAt", "(III[I)I"⟩
abbrev cX7_firstOf : ByteArray := prog_9_method_11_code
def yX7_firstOf : MethodName := ⟨RX7, "firstOf", "(IIII[I)I"⟩
def RX8 : String := "LuckLinks$Tallies"
def TX8 : u_T := fun k => match k with
  | 0 => ("LuckLinks$Tallies", "world", "LLuckLinks$World;", true)
  | 1 => ("LuckLinks$Tallies", "pressWeeks", "I", false)
  | 2 => ("LuckLinks$Tallies", "pressYes", "I", false)
  | 3 => ("LuckLinks$Tallies", "otherOne", "I", false)
  | 4 => ("LuckLinks$Tallies", "looked", "I", false)
  | 5 => ("LuckLinks$Tallies", "otherRows", "J", false)
  | 6 => ("LuckLinks$Tallies", "squares", "J", false)
  | _ => ("LuckLinks$Tallies", "couples", "J", false)
def tyX8 : Nat → FieldType := fun k => match k with
  | 0 => .object "LuckLinks$World"
  | 1 => .int
  | 2 => .int
  | 3 => .int
  | 4 => .int
  | 5 => .long
  | 6 => .long
  | _ => .long
abbrev wsX80 : List Cond := u_ws RX8 TX8 8
theorem nmX8 : ∀ a, a < 8 → ∀ b, b < 8 → a ≠ b → (TX8 a).2.1 ≠ (TX8 b).2.1 := by decide +kernel
theorem tyX8_ok : ∀ k, k < 8 → parseFieldDescriptor (TX8 k).2.2.1 = some (tyX8 k) := by decide +kernel
abbrev cX8_init : ByteArray := prog_10_method_1_code
def yX8_init : MethodName := ⟨RX8, "<init>", "(LLuckLinks$World;)V"⟩
abbrev cX8_compareCouples : ByteArray := prog_10_method_2_code
def yX8_compareCouples : MethodName := ⟨RX8, "compareCouples", "(IIILLuckLinks$Ratio;)V"⟩
abbrev cX8_addCouplesOfOne : ByteArray := prog_10_method_3_code
def yX8_addCouplesOfOne : MethodName := ⟨RX8, "addCouplesOfOne", "(III)V"⟩
abbrev cX8_addCouplesOfDay : ByteArray := prog_10_method_4_code
def yX8_addCouplesOfDay : MethodName := ⟨RX8, "addCouplesOfDay", "(III)V"⟩
abbrev cX8_addCouples : ByteArray := prog_10_method_5_code
def yX8_addCouples : MethodName := ⟨RX8, "addCouples", "(JJJ)V"⟩
abbrev cX8_putRight : ByteArray := prog_10_method_6_code
def yX8_putRight : MethodName := ⟨RX8, "putRight", "(IILLuckLinks$Ratio;)V"⟩
abbrev cX8_weighHour : ByteArray := prog_10_method_7_code
def yX8_weighHour : MethodName := ⟨RX8, "weighHour", "(IIILLuckLinks$Ratio;)V"⟩
abbrev cX8_chargeHour : ByteArray := prog_10_method_8_code
def yX8_chargeHour : MethodName := ⟨RX8, "chargeHour", "(IIIILLuckLinks$Ratio;)V"⟩
abbrev cX8_press : ByteArray := prog_10_method_9_code
def yX8_press : MethodName := ⟨RX8, "press", "(I)V"⟩
abbrev cX8_rowsOfPress : ByteArray := prog_10_method_10_code
def yX8_rowsOfPress : MethodName := ⟨RX8, "rowsOfPress", "()J"⟩
abbrev cX8_findOther : ByteArray := prog_10_method_11_code
def yX8_findOther : MethodName := ⟨RX8, "findOther", "()V"⟩
abbrev cX8_otherHundredths : ByteArray := prog_10_method_12_code
def yX8_otherHundredths : MethodName := ⟨RX8, "otherHundredths", "()I"⟩
abbrev cX8_lookBeside : ByteArray := prog_10_method_13_code
def yX8_lookBeside : MethodName := ⟨RX8, "lookBeside", "(ILLuckLinks$Ratio;)V"⟩
def RX9 : String := "LuckLinks$WeekDrawing"
def TX9 : u_T := fun k => match k with
  | 0 => ("LuckLinks$WeekDrawing", "world", "LLuckLinks$World;", true)
  | 1 => ("LuckLinks$WeekDrawing", "order", "LLuckLinks$Ranking;", true)
  | 2 => ("LuckLinks$WeekDrawing", "sums", "LLuckLinks$Ranking;", true)
  | _ => ("LuckLinks$WeekDrawing", "asked", "[I", true)
def tyX9 : Nat → FieldType := fun k => match k with
  | 0 => .object "LuckLinks$World"
  | 1 => .object "LuckLinks$Ranking"
  | 2 => .object "LuckLinks$Ranking"
  | _ => .array .int
abbrev wsX90 : List Cond := u_ws RX9 TX9 4
theorem nmX9 : ∀ a, a < 4 → ∀ b, b < 4 → a ≠ b → (TX9 a).2.1 ≠ (TX9 b).2.1 := by decide +kernel
theorem tyX9_ok : ∀ k, k < 4 → parseFieldDescriptor (TX9 k).2.2.1 = some (tyX9 k) := by decide +kernel
abbrev cX9_init : ByteArray := prog_11_method_1_code
def yX9_init : MethodName := ⟨RX9, "<init>", "(LLuckLinks$World;)V"⟩
abbrev cX9_drawWeek : ByteArray := prog_11_method_2_code
def yX9_drawWeek : MethodName := ⟨RX9, "drawWeek", "(IILLuckLinks$Law;)I"⟩
abbrev cX9_drift : ByteArray := prog_11_method_3_code
def yX9_drift : MethodName := ⟨RX9, "drift", "(ILLuckLinks$Law;)V"⟩
abbrev cX9_drawDay : ByteArray := prog_11_method_4_code
def yX9_drawDay : MethodName := ⟨RX9, "drawDay", "(IIILLuckLinks$Law;)V"⟩
abbrev cX9_drawStrokes : ByteArray := prog_11_method_5_code
def yX9_drawStrokes : MethodName := ⟨RX9, "drawStrokes", "(ILLuckLinks$Law;)I"⟩
abbrev cX9_goOn : ByteArray := prog_11_method_6_code
def yX9_goOn : MethodName := ⟨RX9, "goOn", "(IIII)I"⟩
abbrev cX9_draw : ByteArray := prog_11_method_7_code
def yX9_draw : MethodName := ⟨RX9, "draw", "(I)I"⟩
def RX10 : String := "LuckLinks$World"
def TX10 : u_T := fun k => match k with
  | 0 => ("LuckLinks$World", "players", "I", false)
  | 1 => ("LuckLinks$World", "gifts", "[I", true)
  | 2 => ("LuckLinks$World", "courses", "I", false)
  | 3 => ("LuckLinks$World", "courseStrokes", "[I", true)
  | 4 => ("LuckLinks$World", "weekCourse", "[I", true)
  | 5 => ("LuckLinks$World", "rounds", "I", false)
  | 6 => ("LuckLinks$World", "hours", "[I", true)
  | 7 => ("LuckLinks$World", "values", "[I", true)
  | 8 => ("LuckLinks$World", "dayRounds", "[I", true)
  | 9 => ("LuckLinks$World", "dayValues", "[I", true)
  | 10 => ("LuckLinks$World", "bets", "[I", true)
  | _ => ("LuckLinks$World", "z", "J", false)
def tyX10 : Nat → FieldType := fun k => match k with
  | 0 => .int
  | 1 => .array .int
  | 2 => .int
  | 3 => .array .int
  | 4 => .array .int
  | 5 => .int
  | 6 => .array .int
  | 7 => .array .int
  | 8 => .array .int
  | 9 => .array .int
  | 10 => .array .int
  | _ => .long
abbrev wsX100 : List Cond := u_ws RX10 TX10 12
theorem nmX10 : ∀ a, a < 12 → ∀ b, b < 12 → a ≠ b → (TX10 a).2.1 ≠ (TX10 b).2.1 := by decide +kernel
theorem tyX10_ok : ∀ k, k < 12 → parseFieldDescriptor (TX10 k).2.2.1 = some (tyX10 k) := by decide +kernel
abbrev cX10_init : ByteArray := prog_12_method_1_code
def yX10_init : MethodName := ⟨RX10, "<init>", "()V"⟩
abbrev cX10_copyFrom : ByteArray := prog_12_method_2_code
def yX10_copyFrom : MethodName := ⟨RX10, "copyFrom", "(LLuckLinks$World;)V"⟩
abbrev cX10_addPlayer : ByteArray := prog_12_method_3_code
def yX10_addPlayer : MethodName := ⟨RX10, "addPlayer", "(IIII)I"⟩
abbrev cX10_addCourse : ByteArray := prog_12_method_4_code
def yX10_addCourse : MethodName := ⟨RX10, "addCourse", "(IIII)I"⟩
abbrev cX10_putParts : ByteArray := prog_12_method_5_code
def yX10_putParts : MethodName := ⟨RX10, "putParts", "([IIIIII)V"⟩
abbrev cX10_isPlayer : ByteArray := prog_12_method_6_code
def yX10_isPlayer : MethodName := ⟨RX10, "isPlayer", "(I)Z"⟩
abbrev cX10_isField : ByteArray := prog_12_method_7_code
def yX10_isField : MethodName := ⟨RX10, "isField", "(I)Z"⟩
abbrev cX10_courseOf : ByteArray := prog_12_method_8_code
def yX10_courseOf : MethodName := ⟨RX10, "courseOf", "(I)I"⟩
abbrev cX10_giftOf : ByteArray := prog_12_method_9_code
def yX10_giftOf : MethodName := ⟨RX10, "giftOf", "(II)I"⟩
abbrev cX10_putGift : ByteArray := prog_12_method_10_code
def yX10_putGift : MethodName := ⟨RX10, "putGift", "(III)V"⟩
abbrev cX10_putBet : ByteArray := prog_12_method_11_code
def yX10_putBet : MethodName := ⟨RX10, "putBet", "(III)V"⟩
abbrev cX10_betOf : ByteArray := prog_12_method_12_code
def yX10_betOf : MethodName := ⟨RX10, "betOf", "(II)I"⟩
abbrev cX10_strokesOf : ByteArray := prog_12_method_13_code
def yX10_strokesOf : MethodName := ⟨RX10, "strokesOf", "(II)I"⟩
abbrev cX10_isFree : ByteArray := prog_12_method_14_code
def yX10_isFree : MethodName := ⟨RX10, "isFree", "(III)Z"⟩
abbrev cX10_addRound : ByteArray := prog_12_method_15_code
def yX10_addRound : MethodName := ⟨RX10, "addRound", "(IIII)I"⟩
abbrev cX10_addValue : ByteArray := prog_12_method_16_code
def yX10_addValue : MethodName := ⟨RX10, "addValue", "(IIII)V"⟩
abbrev cX10_slotOf : ByteArray := prog_12_method_17_code
def yX10_slotOf : MethodName := ⟨RX10, "slotOf", "(III)I"⟩
abbrev cX10_hourOf : ByteArray := prog_12_method_18_code
def yX10_hourOf : MethodName := ⟨RX10, "hourOf", "(III)I"⟩
abbrev cX10_hasRound : ByteArray := prog_12_method_19_code
def yX10_hasRound : MethodName := ⟨RX10, "hasRound", "(III)Z"⟩
abbrev cX10_roundsOn : ByteArray := prog_12_method_20_code
def yX10_roundsOn : MethodName := ⟨RX10, "roundsOn", "(II)I"⟩
abbrev cX10_valueOf : ByteArray := prog_12_method_21_code
def yX10_valueOf : MethodName := ⟨RX10, "valueOf", "(IIII)I"⟩
abbrev cX10_allOf : ByteArray := prog_12_method_22_code
def yX10_allOf : MethodName := ⟨RX10, "allOf", "(III)I"⟩
abbrev cX10_sumOf : ByteArray := prog_12_method_23_code
def yX10_sumOf : MethodName := ⟨RX10, "sumOf", "(III)I"⟩
abbrev cX10_offOf : ByteArray := prog_12_method_24_code
def yX10_offOf : MethodName := ⟨RX10, "offOf", "(IIII)J"⟩
def RX11 : String := "LuckLinks"
def TX11 : u_T := fun k => match k with
  | 0 => ("LuckLinks", "world", "LLuckLinks$World;", true)
  | 1 => ("LuckLinks", "images", "[LLuckLinks$World;", true)
  | 2 => ("LuckLinks", "imageCount", "I", false)
  | 3 => ("LuckLinks", "tape", "[B", true)
  | 4 => ("LuckLinks", "tapeLength", "I", false)
  | 5 => ("LuckLinks", "reader", "LLuckLinks$LawReader;", true)
  | 6 => ("LuckLinks", "law", "LLuckLinks$Law;", false)
  | 7 => ("LuckLinks", "spare", "LLuckLinks$Law;", false)
  | 8 => ("LuckLinks", "faultPlace", "I", false)
  | 9 => ("LuckLinks", "refused", "[I", true)
  | 10 => ("LuckLinks", "ratio", "LLuckLinks$Ratio;", true)
  | 11 => ("LuckLinks", "drawing", "LLuckLinks$WeekDrawing;", true)
  | 12 => ("LuckLinks", "standings", "LLuckLinks$Standings;", true)
  | 13 => ("LuckLinks", "form", "LLuckLinks$Form;", true)
  | 14 => ("LuckLinks", "halves", "LLuckLinks$Halves;", true)
  | 15 => ("LuckLinks", "chances", "LLuckLinks$Chances;", true)
  | _ => ("LuckLinks", "tallies", "LLuckLinks$Tallies;", true)
def tyX11 : Nat → FieldType := fun k => match k with
  | 0 => .object "LuckLinks$World"
  | 1 => .array (.object "LuckLinks$World")
  | 2 => .int
  | 3 => .array .byte
  | 4 => .int
  | 5 => .object "LuckLinks$LawReader"
  | 6 => .object "LuckLinks$Law"
  | 7 => .object "LuckLinks$Law"
  | 8 => .int
  | 9 => .array .int
  | 10 => .object "LuckLinks$Ratio"
  | 11 => .object "LuckLinks$WeekDrawing"
  | 12 => .object "LuckLinks$Standings"
  | 13 => .object "LuckLinks$Form"
  | 14 => .object "LuckLinks$Halves"
  | 15 => .object "LuckLinks$Chances"
  | _ => .object "LuckLinks$Tallies"
abbrev wsX110 : List Cond := u_ws RX11 TX11 17
theorem nmX11 : ∀ a, a < 17 → ∀ b, b < 17 → a ≠ b → (TX11 a).2.1 ≠ (TX11 b).2.1 := by decide +kernel
theorem tyX11_ok : ∀ k, k < 17 → parseFieldDescriptor (TX11 k).2.2.1 = some (tyX11 k) := by decide +kernel
abbrev cX11_init : ByteArray := prog_1_method_1_code
def yX11_init : MethodName := ⟨RX11, "<init>", "()V"⟩
abbrev cX11_player : ByteArray := prog_1_method_2_code
def yX11_player : MethodName := ⟨RX11, "player", "(IIII)I"⟩
abbrev cX11_course : ByteArray := prog_1_method_3_code
def yX11_course : MethodName := ⟨RX11, "course", "(IIII)I"⟩
abbrev cX11_week : ByteArray := prog_1_method_4_code
def yX11_week : MethodName := ⟨RX11, "week", "(II)Z"⟩
abbrev cX11_round : ByteArray := prog_1_method_5_code
def yX11_round : MethodName := ⟨RX11, "round", "(IIII)I"⟩
abbrev cX11_bet : ByteArray := prog_1_method_6_code
def yX11_bet : MethodName := ⟨RX11, "bet", "(III)Z"⟩
abbrev cX11_seed : ByteArray := prog_1_method_7_code
def yX11_seed : MethodName := ⟨RX11, "seed", "(I)Z"⟩
abbrev cX11_feed : ByteArray := prog_1_method_8_code
def yX11_feed : MethodName := ⟨RX11, "feed", "(IIIII)I"⟩
abbrev cX11_law : ByteArray := prog_1_method_9_code
def yX11_law : MethodName := ⟨RX11, "law", "(I)I"⟩
abbrev cX11_fault : ByteArray := prog_1_method_10_code
def yX11_fault : MethodName := ⟨RX11, "fault", "()I"⟩
abbrev cX11_rule : ByteArray := prog_1_method_11_code
def yX11_rule : MethodName := ⟨RX11, "rule", "(I)I"⟩
abbrev cX11_run : ByteArray := prog_1_method_12_code
def yX11_run : MethodName := ⟨RX11, "run", "(II)I"⟩
abbrev cX11_gift : ByteArray := prog_1_method_13_code
def yX11_gift : MethodName := ⟨RX11, "gift", "(II)I"⟩
abbrev cX11_score : ByteArray := prog_1_method_14_code
def yX11_score : MethodName := ⟨RX11, "score", "(IIII)I"⟩
abbrev cX11_place : ByteArray := prog_1_method_15_code
def yX11_place : MethodName := ⟨RX11, "place", "(II)I"⟩
abbrev cX11_won : ByteArray := prog_1_method_16_code
def yX11_won : MethodName := ⟨RX11, "won", "(IIII)I"⟩
abbrev cX11_cut : ByteArray := prog_1_method_17_code
def yX11_cut : MethodName := ⟨RX11, "cut", "(III)I"⟩
abbrev cX11_luck : ByteArray := prog_1_method_18_code
def yX11_luck : MethodName := ⟨RX11, "luck", "(IIII)J"⟩
abbrev cX11_back : ByteArray := prog_1_method_19_code
def yX11_back : MethodName := ⟨RX11, "back", "(IIIII)I"⟩
abbrev cX11_skill : ByteArray := prog_1_method_20_code
def yX11_skill : MethodName := ⟨RX11, "skill", "(IIII)J"⟩
abbrev cX11_span : ByteArray := prog_1_method_21_code
def yX11_span : MethodName := ⟨RX11, "span", "(IIII)I"⟩
abbrev cX11_best : ByteArray := prog_1_method_22_code
def yX11_best : MethodName := ⟨RX11, "best", "(I)I"⟩
abbrev cX11_years : ByteArray := prog_1_method_23_code
def yX11_years : MethodName := ⟨RX11, "years", "(I)I"⟩
abbrev cX11_odds : ByteArray := prog_1_method_24_code
def yX11_odds : MethodName := ⟨RX11, "odds", "(III)I"⟩
abbrev cX11_need : ByteArray := prog_1_method_25_code
def yX11_need : MethodName := ⟨RX11, "need", "(II)I"⟩
abbrev cX11_lasts : ByteArray := prog_1_method_26_code
def yX11_lasts : MethodName := ⟨RX11, "lasts", "(IIIII)I"⟩
abbrev cX11_most : ByteArray := prog_1_method_27_code
def yX11_most : MethodName := ⟨RX11, "most", "(III)I"⟩
abbrev cX11_right : ByteArray := prog_1_method_28_code
def yX11_right : MethodName := ⟨RX11, "right", "(III)J"⟩
abbrev cX11_listed : ByteArray := prog_1_method_29_code
def yX11_listed : MethodName := ⟨RX11, "listed", "(III)I"⟩
abbrev cX11_line : ByteArray := prog_1_method_30_code
def yX11_line : MethodName := ⟨RX11, "line", "(IIII)I"⟩
abbrev cX11_held : ByteArray := prog_1_method_31_code
def yX11_held : MethodName := ⟨RX11, "held", "(II)I"⟩
abbrev cX11_worth : ByteArray := prog_1_method_32_code
def yX11_worth : MethodName := ⟨RX11, "worth", "(IIII)J"⟩
abbrev cX11_cost : ByteArray := prog_1_method_33_code
def yX11_cost : MethodName := ⟨RX11, "cost", "(IIIII)J"⟩
abbrev cX11_pressed : ByteArray := prog_1_method_34_code
def yX11_pressed : MethodName := ⟨RX11, "pressed", "(II)J"⟩
abbrev cX11_other : ByteArray := prog_1_method_35_code
def yX11_other : MethodName := ⟨RX11, "other", "(I)I"⟩
abbrev cX11_beside : ByteArray := prog_1_method_36_code
def yX11_beside : MethodName := ⟨RX11, "beside", "(II)J"⟩
abbrev cX11_image : ByteArray := prog_1_method_37_code
def yX11_image : MethodName := ⟨RX11, "image", "()I"⟩
abbrev cX11_restore : ByteArray := prog_1_method_38_code
def yX11_restore : MethodName := ⟨RX11, "restore", "(I)Z"⟩
abbrev cX11_count : ByteArray := prog_1_method_39_code
def yX11_count : MethodName := ⟨RX11, "count", "(I)I"⟩
abbrev cX11_refuse : ByteArray := prog_1_method_40_code
def yX11_refuse : MethodName := ⟨RX11, "refuse", "(I)I"⟩
abbrev cX11_feedNumber : ByteArray := prog_1_method_41_code
def yX11_feedNumber : MethodName := ⟨RX11, "feedNumber", "(I)V"⟩
abbrev cX11_isBetween : ByteArray := prog_1_method_42_code
def yX11_isBetween : MethodName := ⟨RX11, "isBetween", "(III)Z"⟩
abbrev cX11_areBetween : ByteArray := prog_1_method_43_code
def yX11_areBetween : MethodName := ⟨RX11, "areBetween", "(IIIIII)Z"⟩
abbrev cX11_isWeek : ByteArray := prog_1_method_44_code
def yX11_isWeek : MethodName := ⟨RX11, "isWeek", "(I)Z"⟩
abbrev cX11_areWeeks : ByteArray := prog_1_method_45_code
def yX11_areWeeks : MethodName := ⟨RX11, "areWeeks", "(II)Z"⟩
abbrev cX11_areHalves : ByteArray := prog_1_method_46_code
def yX11_areHalves : MethodName := ⟨RX11, "areHalves", "(III)Z"⟩
abbrev cX11_isPart : ByteArray := prog_1_method_47_code
def yX11_isPart : MethodName := ⟨RX11, "isPart", "(I)Z"⟩
def RX12 : String := "LuckLinksModel"
def TX12 : u_T := fun k => match k with
  | 0 => ("LuckLinksModel", "players", "[I", true)
  | 1 => ("LuckLinksModel", "courses", "[I", true)
  | 2 => ("LuckLinksModel", "rounds", "[I", true)
  | 3 => ("LuckLinksModel", "zs", "[J", true)
  | 4 => ("LuckLinksModel", "gifts", "[I", true)
  | 5 => ("LuckLinksModel", "courseStrokes", "[I", true)
  | 6 => ("LuckLinksModel", "weekCourse", "[I", true)
  | 7 => ("LuckLinksModel", "has", "[Z", true)
  | 8 => ("LuckLinksModel", "hasBet", "[Z", true)
  | 9 => ("LuckLinksModel", "hours", "[I", true)
  | 10 => ("LuckLinksModel", "strokes", "[I", true)
  | 11 => ("LuckLinksModel", "bets", "[I", true)
  | 12 => ("LuckLinksModel", "images", "I", false)
  | 13 => ("LuckLinksModel", "refused", "[I", true)
  | 14 => ("LuckLinksModel", "rulesMany", "[I", true)
  | 15 => ("LuckLinksModel", "hourMany", "[I", true)
  | 16 => ("LuckLinksModel", "pressMany", "[I", true)
  | 17 => ("LuckLinksModel", "drifts", "[I", true)
  | 18 => ("LuckLinksModel", "lucks", "[I", true)
  | 19 => ("LuckLinksModel", "cuts", "[I", true)
  | 20 => ("LuckLinksModel", "prizes", "[I", true)
  | 21 => ("LuckLinksModel", "points", "[I", true)
  | 22 => ("LuckLinksModel", "weights", "[I", true)
  | 23 => ("LuckLinksModel", "hasWeight", "[Z", true)
  | 24 => ("LuckLinksModel", "hourPart", "[I", true)
  | 25 => ("LuckLinksModel", "hourMore", "[I", true)
  | 26 => ("LuckLinksModel", "hourFrom", "[I", true)
  | 27 => ("LuckLinksModel", "pressPart", "[I", true)
  | 28 => ("LuckLinksModel", "pressMore", "[I", true)
  | 29 => ("LuckLinksModel", "pressFrom", "[I", true)
  | 30 => ("LuckLinksModel", "pressTo", "[I", true)
  | 31 => ("LuckLinksModel", "written", "I", false)
  | 32 => ("LuckLinksModel", "stepKind", "[I", true)
  | 33 => ("LuckLinksModel", "stepWord", "[I", true)
  | 34 => ("LuckLinksModel", "stepSign", "[I", true)
  | 35 => ("LuckLinksModel", "stepNumber", "[I", true)
  | 36 => ("LuckLinksModel", "tape", "[B", true)
  | 37 => ("LuckLinksModel", "taped", "I", false)
  | 38 => ("LuckLinksModel", "faultAt", "I", false)
  | 39 => ("LuckLinksModel", "limit", "I", false)
  | 40 => ("LuckLinksModel", "point", "I", false)
  | 41 => ("LuckLinksModel", "from", "I", false)
  | 42 => ("LuckLinksModel", "token", "I", false)
  | 43 => ("LuckLinksModel", "value", "I", false)
  | 44 => ("LuckLinksModel", "text", "J", false)
  | 45 => ("LuckLinksModel", "isWrong", "Z", false)
  | 46 => ("LuckLinksModel", "opened", "[I", true)
  | 47 => ("LuckLinksModel", "joined", "[I", true)
  | 48 => ("LuckLinksModel", "opens", "I", false)
  | 49 => ("LuckLinksModel", "asks", "[I", true)
  | 50 => ("LuckLinksModel", "pile", "[Z", true)
  | 51 => ("LuckLinksModel", "in", "[I", true)
  | 52 => ("LuckLinksModel", "sums", "[I", true)
  | 53 => ("LuckLinksModel", "inMany", "I", false)
  | 54 => ("LuckLinksModel", "dayMany", "I", false)
  | 55 => ("LuckLinksModel", "daySum", "I", false)
  | 56 => ("LuckLinksModel", "lead", "I", false)
  | 57 => ("LuckLinksModel", "nextLead", "I", false)
  | 58 => ("LuckLinksModel", "leaders", "I", false)
  | 59 => ("LuckLinksModel", "skillUp", "J", false)
  | 60 => ("LuckLinksModel", "skillWeight", "J", false)
  | 61 => ("LuckLinksModel", "ways", "[J", true)
  | 62 => ("LuckLinksModel", "waysNext", "[J", true)
  | 63 => ("LuckLinksModel", "lot", "[J", true)
  | 64 => ("LuckLinksModel", "wholes", "[I", true)
  | 65 => ("LuckLinksModel", "apart", "[J", true)
  | 66 => ("LuckLinksModel", "apartNext", "[J", true)
  | 67 => ("LuckLinksModel", "once", "[J", true)
  | 68 => ("LuckLinksModel", "offs", "[J", true)
  | 69 => ("LuckLinksModel", "many", "[I", true)
  | 70 => ("LuckLinksModel", "amounts", "[I", true)
  | 71 => ("LuckLinksModel", "worthUp", "J", false)
  | 72 => ("LuckLinksModel", "worthBelow", "J", false)
  | 73 => ("LuckLinksModel", "pressedMany", "I", false)
  | _ => ("LuckLinksModel", "pressedAll", "I", false)
def tyX12 : Nat → FieldType := fun k => match k with
  | 0 => .array .int
  | 1 => .array .int
  | 2 => .array .int
  | 3 => .array .long
  | 4 => .array .int
  | 5 => .array .int
  | 6 => .array .int
  | 7 => .array .boolean
  | 8 => .array .boolean
  | 9 => .array .int
  | 10 => .array .int
  | 11 => .array .int
  | 12 => .int
  | 13 => .array .int
  | 14 => .array .int
  | 15 => .array .int
  | 16 => .array .int
  | 17 => .array .int
  | 18 => .array .int
  | 19 => .array .int
  | 20 => .array .int
  | 21 => .array .int
  | 22 => .array .int
  | 23 => .array .boolean
  | 24 => .array .int
  | 25 => .array .int
  | 26 => .array .int
  | 27 => .array .int
  | 28 => .array .int
  | 29 => .array .int
  | 30 => .array .int
  | 31 => .int
  | 32 => .array .int
  | 33 => .array .int
  | 34 => .array .int
  | 35 => .array .int
  | 36 => .array .byte
  | 37 => .int
  | 38 => .int
  | 39 => .int
  | 40 => .int
  | 41 => .int
  | 42 => .int
  | 43 => .int
  | 44 => .long
  | 45 => .boolean
  | 46 => .array .int
  | 47 => .array .int
  | 48 => .int
  | 49 => .array .int
  | 50 => .array .boolean
  | 51 => .array .int
  | 52 => .array .int
  | 53 => .int
  | 54 => .int
  | 55 => .int
  | 56 => .int
  | 57 => .int
  | 58 => .int
  | 59 => .long
  | 60 => .long
  | 61 => .array .long
  | 62 => .array .long
  | 63 => .array .long
  | 64 => .array .int
  | 65 => .array .long
  | 66 => .array .long
  | 67 => .array .long
  | 68 => .array .long
  | 69 => .array .int
  | 70 => .array .int
  | 71 => .long
  | 72 => .long
  | 73 => .int
  | _ => .int
abbrev wsX120 : List Cond := u_ws RX12 TX12 75
theorem nmX12 : ∀ a, a < 75 → ∀ b, b < 75 → a ≠ b → (TX12 a).2.1 ≠ (TX12 b).2.1 := by decide +kernel
theorem tyX12_ok : ∀ k, k < 75 → parseFieldDescriptor (TX12 k).2.2.1 = some (tyX12 k) := by decide +kernel
abbrev cX12_init : ByteArray := prog_14_method_1_code
def yX12_init : MethodName := ⟨RX12, "<init>", "()V"⟩
abbrev cX12_within : ByteArray := prog_14_method_3_code
def yX12_within : MethodName := ⟨RX12, "within", "(III)Z"⟩
abbrev cX12_bitsOf : ByteArray := prog_14_method_4_code
def yX12_bitsOf : MethodName := ⟨RX12, "bitsOf", "(I)I"⟩
abbrev cX12_copies : ByteArray := prog_14_method_5_code
def yX12_copies : MethodName := ⟨RX12, "copies", "(II)V"⟩
abbrev cX12_refuses : ByteArray := prog_14_method_6_code
def yX12_refuses : MethodName := ⟨RX12, "refuses", "(I)I"⟩
abbrev cX12_isNot : ByteArray := prog_14_method_7_code
def yX12_isNot : MethodName := ⟨RX12, "isNot", "()Z"⟩
abbrev cX12_image : ByteArray := prog_14_method_8_code
def yX12_image : MethodName := ⟨RX12, "image", "()I"⟩
abbrev cX12_restore : ByteArray := prog_14_method_9_code
def yX12_restore : MethodName := ⟨RX12, "restore", "(I)Z"⟩
abbrev cX12_isPlayer : ByteArray := prog_14_method_10_code
def yX12_isPlayer : MethodName := ⟨RX12, "isPlayer", "(I)Z"⟩
abbrev cX12_isWeek : ByteArray := prog_14_method_11_code
def yX12_isWeek : MethodName := ⟨RX12, "isWeek", "(I)Z"⟩
abbrev cX12_areWeeks : ByteArray := prog_14_method_12_code
def yX12_areWeeks : MethodName := ⟨RX12, "areWeeks", "(II)Z"⟩
abbrev cX12_slot : ByteArray := prog_14_method_13_code
def yX12_slot : MethodName := ⟨RX12, "slot", "(III)I"⟩
abbrev cX12_held : ByteArray := prog_14_method_14_code
def yX12_held : MethodName := ⟨RX12, "held", "(III)I"⟩
abbrev cX12_player : ByteArray := prog_14_method_15_code
def yX12_player : MethodName := ⟨RX12, "player", "(IIII)I"⟩
abbrev cX12_course : ByteArray := prog_14_method_16_code
def yX12_course : MethodName := ⟨RX12, "course", "(IIII)I"⟩
abbrev cX12_week : ByteArray := prog_14_method_17_code
def yX12_week : MethodName := ⟨RX12, "week", "(II)Z"⟩
abbrev cX12_round : ByteArray := prog_14_method_18_code
def yX12_round : MethodName := ⟨RX12, "round", "(IIII)I"⟩
abbrev cX12_adds : ByteArray := prog_14_method_19_code
def yX12_adds : MethodName := ⟨RX12, "adds", "(II)V"⟩
abbrev cX12_bet : ByteArray := prog_14_method_20_code
def yX12_bet : MethodName := ⟨RX12, "bet", "(III)Z"⟩
abbrev cX12_seed : ByteArray := prog_14_method_21_code
def yX12_seed : MethodName := ⟨RX12, "seed", "(I)Z"⟩
abbrev cX12_feed : ByteArray := prog_14_method_22_code
def yX12_feed : MethodName := ⟨RX12, "feed", "(IIIII)I"⟩
abbrev cX12_here : ByteArray := prog_14_method_23_code
def yX12_here : MethodName := ⟨RX12, "here", "()I"⟩
abbrev cX12_next : ByteArray := prog_14_method_24_code
def yX12_next : MethodName := ⟨RX12, "next", "()V"⟩
abbrev cX12_errs : ByteArray := prog_14_method_25_code
def yX12_errs : MethodName := ⟨RX12, "errs", "()V"⟩
abbrev cX12_is : ByteArray := prog_14_method_26_code
def yX12_is : MethodName := ⟨RX12, "is", "(J)Z"⟩
abbrev cX12_numeral : ByteArray := prog_14_method_27_code
def yX12_numeral : MethodName := ⟨RX12, "numeral", "(II)I"⟩
abbrev cX12_ruleHere : ByteArray := prog_14_method_28_code
def yX12_ruleHere : MethodName := ⟨RX12, "ruleHere", "()I"⟩
abbrev cX12_partHere : ByteArray := prog_14_method_29_code
def yX12_partHere : MethodName := ⟨RX12, "partHere", "()I"⟩
abbrev cX12_wordHere : ByteArray := prog_14_method_30_code
def yX12_wordHere : MethodName := ⟨RX12, "wordHere", "()I"⟩
abbrev cX12_step : ByteArray := prog_14_method_31_code
def yX12_step : MethodName := ⟨RX12, "step", "(IIII)V"⟩
abbrev cX12_readTest : ByteArray := prog_14_method_32_code
def yX12_readTest : MethodName := ⟨RX12, "readTest", "()V"⟩
abbrev cX12_closes : ByteArray := prog_14_method_33_code
def yX12_closes : MethodName := ⟨RX12, "closes", "()Z"⟩
abbrev cX12_readCondition : ByteArray := prog_14_method_34_code
def yX12_readCondition : MethodName := ⟨RX12, "readCondition", "()V"⟩
abbrev cX12_readHour : ByteArray := prog_14_method_35_code
def yX12_readHour : MethodName := ⟨RX12, "readHour", "()V"⟩
abbrev cX12_readPress : ByteArray := prog_14_method_36_code
def yX12_readPress : MethodName := ⟨RX12, "readPress", "()V"⟩
abbrev cX12_readRule : ByteArray := prog_14_method_37_code
def yX12_readRule : MethodName := ⟨RX12, "readRule", "()V"⟩
abbrev cX12_clears : ByteArray := prog_14_method_38_code
def yX12_clears : MethodName := ⟨RX12, "clears", "()V"⟩
abbrev cX12_takes : ByteArray := prog_14_method_39_code
def yX12_takes : MethodName := ⟨RX12, "takes", "()V"⟩
abbrev cX12_law : ByteArray := prog_14_method_40_code
def yX12_law : MethodName := ⟨RX12, "law", "(I)I"⟩
abbrev cX12_fault : ByteArray := prog_14_method_41_code
def yX12_fault : MethodName := ⟨RX12, "fault", "()I"⟩
abbrev cX12_rule : ByteArray := prog_14_method_42_code
def yX12_rule : MethodName := ⟨RX12, "rule", "(I)I"⟩
abbrev cX12_weightOf : ByteArray := prog_14_method_43_code
def yX12_weightOf : MethodName := ⟨RX12, "weightOf", "(I)I"⟩
abbrev cX12_holds : ByteArray := prog_14_method_44_code
def yX12_holds : MethodName := ⟨RX12, "holds", "(I)Z"⟩
abbrev cX12_draw : ByteArray := prog_14_method_45_code
def yX12_draw : MethodName := ⟨RX12, "draw", "(I)I"⟩
abbrev cX12_putInOrder : ByteArray := prog_14_method_46_code
def yX12_putInOrder : MethodName := ⟨RX12, "putInOrder", "()V"⟩
abbrev cX12_strokeOf : ByteArray := prog_14_method_47_code
def yX12_strokeOf : MethodName := ⟨RX12, "strokeOf", "(IIII)I"⟩
abbrev cX12_leastSum : ByteArray := prog_14_method_48_code
def yX12_leastSum : MethodName := ⟨RX12, "leastSum", "()I"⟩
abbrev cX12_drawDay : ByteArray := prog_14_method_49_code
def yX12_drawDay : MethodName := ⟨RX12, "drawDay", "(II)V"⟩
abbrev cX12_lineAt : ByteArray := prog_14_method_50_code
def yX12_lineAt : MethodName := ⟨RX12, "lineAt", "(I)I"⟩
abbrev cX12_run : ByteArray := prog_14_method_51_code
def yX12_run : MethodName := ⟨RX12, "run", "(II)I"⟩
abbrev cX12_gift : ByteArray := prog_14_method_52_code
def yX12_gift : MethodName := ⟨RX12, "gift", "(II)I"⟩
abbrev cX12_valueAt : ByteArray := prog_14_method_53_code
def yX12_valueAt : MethodName := ⟨RX12, "valueAt", "(II)I"⟩
abbrev cX12_partOf : ByteArray := prog_14_method_54_code
def yX12_partOf : MethodName := ⟨RX12, "partOf", "(I)I"⟩
abbrev cX12_isPart : ByteArray := prog_14_method_55_code
def yX12_isPart : MethodName := ⟨RX12, "isPart", "(I)Z"⟩
abbrev cX12_score : ByteArray := prog_14_method_56_code
def yX12_score : MethodName := ⟨RX12, "score", "(IIII)I"⟩
abbrev cX12_countDay : ByteArray := prog_14_method_57_code
def yX12_countDay : MethodName := ⟨RX12, "countDay", "(III)V"⟩
abbrev cX12_offOf : ByteArray := prog_14_method_58_code
def yX12_offOf : MethodName := ⟨RX12, "offOf", "(IIII)J"⟩
abbrev cX12_wholeSum : ByteArray := prog_14_method_59_code
def yX12_wholeSum : MethodName := ⟨RX12, "wholeSum", "(II)I"⟩
abbrev cX12_placeOf : ByteArray := prog_14_method_60_code
def yX12_placeOf : MethodName := ⟨RX12, "placeOf", "(II)I"⟩
abbrev cX12_place : ByteArray := prog_14_method_61_code
def yX12_place : MethodName := ⟨RX12, "place", "(II)I"⟩
abbrev cX12_wonIn : ByteArray := prog_14_method_62_code
def yX12_wonIn : MethodName := ⟨RX12, "wonIn", "(IIZ)I"⟩
abbrev cX12_won : ByteArray := prog_14_method_63_code
def yX12_won : MethodName := ⟨RX12, "won", "(IIII)I"⟩
abbrev cX12_sumTo : ByteArray := prog_14_method_64_code
def yX12_sumTo : MethodName := ⟨RX12, "sumTo", "(III)I"⟩
abbrev cX12_cut : ByteArray := prog_14_method_65_code
def yX12_cut : MethodName := ⟨RX12, "cut", "(III)I"⟩
abbrev cX12_divisor : ByteArray := prog_14_method_66_code
def yX12_divisor : MethodName := ⟨RX12, "divisor", "(JJ)J"⟩
abbrev cX12_lowest : ByteArray := prog_14_method_67_code
def yX12_lowest : MethodName := ⟨RX12, "lowest", "(JJI)J"⟩
abbrev cX12_luck : ByteArray := prog_14_method_68_code
def yX12_luck : MethodName := ⟨RX12, "luck", "(IIII)J"⟩
abbrev cX12_leadsIn : ByteArray := prog_14_method_69_code
def yX12_leadsIn : MethodName := ⟨RX12, "leadsIn", "(III)V"⟩
abbrev cX12_back : ByteArray := prog_14_method_70_code
def yX12_back : MethodName := ⟨RX12, "back", "(IIIII)I"⟩
abbrev cX12_findSkill : ByteArray := prog_14_method_71_code
def yX12_findSkill : MethodName := ⟨RX12, "findSkill", "(IIII)V"⟩
abbrev cX12_isAhead : ByteArray := prog_14_method_72_code
def yX12_isAhead : MethodName := ⟨RX12, "isAhead", "(I)Z"⟩
abbrev cX12_skill : ByteArray := prog_14_method_73_code
def yX12_skill : MethodName := ⟨RX12, "skill", "(IIII)J"⟩
abbrev cX12_skillBy : ByteArray := prog_14_method_74_code
def yX12_skillBy : MethodName := ⟨RX12, "skillBy", "(I)I"⟩
abbrev cX12_played : ByteArray := prog_14_method_75_code
def yX12_played : MethodName := ⟨RX12, "played", "(II)Z"⟩
abbrev cX12_span : ByteArray := prog_14_method_76_code
def yX12_span : MethodName := ⟨RX12, "span", "(IIII)I"⟩
abbrev cX12_bestOf : ByteArray := prog_14_method_77_code
def yX12_bestOf : MethodName := ⟨RX12, "bestOf", "(I)I"⟩
abbrev cX12_best : ByteArray := prog_14_method_78_code
def yX12_best : MethodName := ⟨RX12, "best", "(I)I"⟩
abbrev cX12_years : ByteArray := prog_14_method_79_code
def yX12_years : MethodName := ⟨RX12, "years", "(I)I"⟩
abbrev cX12_findLot : ByteArray := prog_14_method_80_code
def yX12_findLot : MethodName := ⟨RX12, "findLot", "()V"⟩
abbrev cX12_odds : ByteArray := prog_14_method_81_code
def yX12_odds : MethodName := ⟨RX12, "odds", "(III)I"⟩
abbrev cX12_findOnce : ByteArray := prog_14_method_82_code
def yX12_findOnce : MethodName := ⟨RX12, "findOnce", "()V"⟩
abbrev cX12_need : ByteArray := prog_14_method_83_code
def yX12_need : MethodName := ⟨RX12, "need", "(II)I"⟩
abbrev cX12_findHalves : ByteArray := prog_14_method_84_code
def yX12_findHalves : MethodName := ⟨RX12, "findHalves", "(IIII)V"⟩
abbrev cX12_orderOf : ByteArray := prog_14_method_85_code
def yX12_orderOf : MethodName := ⟨RX12, "orderOf", "(II)I"⟩
abbrev cX12_lastsBy : ByteArray := prog_14_method_86_code
def yX12_lastsBy : MethodName := ⟨RX12, "lastsBy", "(IIIII)I"⟩
abbrev cX12_areHalves : ByteArray := prog_14_method_87_code
def yX12_areHalves : MethodName := ⟨RX12, "areHalves", "(III)Z"⟩
abbrev cX12_lasts : ByteArray := prog_14_method_88_code
def yX12_lasts : MethodName := ⟨RX12, "lasts", "(IIIII)I"⟩
abbrev cX12_most : ByteArray := prog_14_method_89_code
def yX12_most : MethodName := ⟨RX12, "most", "(III)I"⟩
abbrev cX12_right : ByteArray := prog_14_method_90_code
def yX12_right : MethodName := ⟨RX12, "right", "(III)J"⟩
abbrev cX12_findPoints : ByteArray := prog_14_method_91_code
def yX12_findPoints : MethodName := ⟨RX12, "findPoints", "(III)V"⟩
abbrev cX12_rankOf : ByteArray := prog_14_method_92_code
def yX12_rankOf : MethodName := ⟨RX12, "rankOf", "(I)I"⟩
abbrev cX12_firstOnes : ByteArray := prog_14_method_93_code
def yX12_firstOnes : MethodName := ⟨RX12, "firstOnes", "(I)I"⟩
abbrev cX12_listed : ByteArray := prog_14_method_94_code
def yX12_listed : MethodName := ⟨RX12, "listed", "(III)I"⟩
abbrev cX12_line : ByteArray := prog_14_method_95_code
def yX12_line : MethodName := ⟨RX12, "line", "(IIII)I"⟩
abbrev cX12_hundredths : ByteArray := prog_14_method_96_code
def yX12_hundredths : MethodName := ⟨RX12, "hundredths", "(JJ)I"⟩
abbrev cX12_lastOff : ByteArray := prog_14_method_97_code
def yX12_lastOff : MethodName := ⟨RX12, "lastOff", "(II)I"⟩
abbrev cX12_apartBy : ByteArray := prog_14_method_98_code
def yX12_apartBy : MethodName := ⟨RX12, "apartBy", "(II)I"⟩
abbrev cX12_held_ : ByteArray := prog_14_method_99_code
def yX12_held_ : MethodName := ⟨RX12, "held", "(II)I"⟩
abbrev cX12_findWorth : ByteArray := prog_14_method_100_code
def yX12_findWorth : MethodName := ⟨RX12, "findWorth", "(III)V"⟩
abbrev cX12_worth : ByteArray := prog_14_method_101_code
def yX12_worth : MethodName := ⟨RX12, "worth", "(IIII)J"⟩
abbrev cX12_cost : ByteArray := prog_14_method_102_code
def yX12_cost : MethodName := ⟨RX12, "cost", "(IIIII)J"⟩
abbrev cX12_findPressed : ByteArray := prog_14_method_103_code
def yX12_findPressed : MethodName := ⟨RX12, "findPressed", "(I)V"⟩
abbrev cX12_rowsOf : ByteArray := prog_14_method_104_code
def yX12_rowsOf : MethodName := ⟨RX12, "rowsOf", "(II)J"⟩
abbrev cX12_pressed : ByteArray := prog_14_method_105_code
def yX12_pressed : MethodName := ⟨RX12, "pressed", "(II)J"⟩
abbrev cX12_other : ByteArray := prog_14_method_106_code
def yX12_other : MethodName := ⟨RX12, "other", "(I)I"⟩
abbrev cX12_beside : ByteArray := prog_14_method_107_code
def yX12_beside : MethodName := ⟨RX12, "beside", "(II)J"⟩
abbrev cX12_count : ByteArray := prog_14_method_108_code
def yX12_count : MethodName := ⟨RX12, "count", "(I)I"⟩
def RJx145de : String := "java/io/Serializable"
def TJx145de : u_T := fun k => match k with
  | _ => ("", "", "", false)
def tyJx145de : Nat → FieldType := fun k => match k with
  | _ => .int
abbrev wsJx145de0 : List Cond := u_ws RJx145de TJx145de 0
theorem nmJx145de : ∀ a, a < 0 → ∀ b, b < 0 → a ≠ b → (TJx145de a).2.1 ≠ (TJx145de b).2.1 := by decide +kernel
theorem tyJx145de_ok : ∀ k, k < 0 → parseFieldDescriptor (TJx145de k).2.2.1 = some (tyJx145de k) := by decide +kernel
def RJx9f9b0 : String := "java/lang/CharSequence"
def TJx9f9b0 : u_T := fun k => match k with
  | _ => ("", "", "", false)
def tyJx9f9b0 : Nat → FieldType := fun k => match k with
  | _ => .int
abbrev wsJx9f9b00 : List Cond := u_ws RJx9f9b0 TJx9f9b0 0
theorem nmJx9f9b0 : ∀ a, a < 0 → ∀ b, b < 0 → a ≠ b → (TJx9f9b0 a).2.1 ≠ (TJx9f9b0 b).2.1 := by decide +kernel
theorem tyJx9f9b0_ok : ∀ k, k < 0 → parseFieldDescriptor (TJx9f9b0 k).2.2.1 = some (tyJx9f9b0 k) := by decide +kernel
def RJxb160c : String := "java/lang/Comparable"
def TJxb160c : u_T := fun k => match k with
  | _ => ("", "", "", false)
def tyJxb160c : Nat → FieldType := fun k => match k with
  | _ => .int
abbrev wsJxb160c0 : List Cond := u_ws RJxb160c TJxb160c 0
theorem nmJxb160c : ∀ a, a < 0 → ∀ b, b < 0 → a ≠ b → (TJxb160c a).2.1 ≠ (TJxb160c b).2.1 := by decide +kernel
theorem tyJxb160c_ok : ∀ k, k < 0 → parseFieldDescriptor (TJxb160c k).2.2.1 = some (tyJxb160c k) := by decide +kernel
def RJ6 : String := "java/lang/Integer"
def TJ6 : u_T := fun k => match k with
  | _ => ("", "", "", false)
def tyJ6 : Nat → FieldType := fun k => match k with
  | _ => .int
abbrev wsJ60 : List Cond := u_ws RJ6 TJ6 0
theorem nmJ6 : ∀ a, a < 0 → ∀ b, b < 0 → a ≠ b → (TJ6 a).2.1 ≠ (TJ6 b).2.1 := by decide +kernel
theorem tyJ6_ok : ∀ k, k < 0 → parseFieldDescriptor (TJ6 k).2.2.1 = some (tyJ6 k) := by decide +kernel
abbrev cJ6_bitCount_0f7a4 : ByteArray := prog_15_method_49_code
def yJ6_bitCount_0f7a4 : MethodName := ⟨RJ6, "bitCount", "(I)I"⟩
def RJ13 : String := "java/lang/Long"
def TJ13 : u_T := fun k => match k with
  | _ => ("", "", "", false)
def tyJ13 : Nat → FieldType := fun k => match k with
  | _ => .int
abbrev wsJ130 : List Cond := u_ws RJ13 TJ13 0
theorem nmJ13 : ∀ a, a < 0 → ∀ b, b < 0 → a ≠ b → (TJ13 a).2.1 ≠ (TJ13 b).2.1 := by decide +kernel
theorem tyJ13_ok : ∀ k, k < 0 → parseFieldDescriptor (TJ13 k).2.2.1 = some (tyJ13 k) := by decide +kernel
abbrev cJ13_compare_74951 : ByteArray := prog_16_method_42_code
def yJ13_compare_74951 : MethodName := ⟨RJ13, "compare", "(JJ)I"⟩
def RJ9 : String := "java/lang/Math"
def TJ9 : u_T := fun k => match k with
  | _ => ("", "", "", false)
def tyJ9 : Nat → FieldType := fun k => match k with
  | _ => .int
abbrev wsJ90 : List Cond := u_ws RJ9 TJ9 0
theorem nmJ9 : ∀ a, a < 0 → ∀ b, b < 0 → a ≠ b → (TJ9 a).2.1 ≠ (TJ9 b).2.1 := by decide +kernel
theorem tyJ9_ok : ∀ k, k < 0 → parseFieldDescriptor (TJ9 k).2.2.1 = some (tyJ9 k) := by decide +kernel
abbrev cJ9_floorDiv_7cf53 : ByteArray := prog_17_method_47_code
def yJ9_floorDiv_7cf53 : MethodName := ⟨RJ9, "floorDiv", "(II)I"⟩
abbrev cJ9_floorMod_7cf53 : ByteArray := prog_17_method_50_code
def yJ9_floorMod_7cf53 : MethodName := ⟨RJ9, "floorMod", "(II)I"⟩
abbrev cJ9_abs_0f7a4 : ByteArray := prog_17_method_59_code
def yJ9_abs_0f7a4 : MethodName := ⟨RJ9, "abs", "(I)I"⟩
abbrev cJ9_abs_067f4 : ByteArray := prog_17_method_61_code
def yJ9_abs_067f4 : MethodName := ⟨RJ9, "abs", "(J)J"⟩
abbrev cJ9_max_7cf53 : ByteArray := prog_17_method_65_code
def yJ9_max_7cf53 : MethodName := ⟨RJ9, "max", "(II)I"⟩
abbrev cJ9_max_f86c9 : ByteArray := prog_17_method_66_code
def yJ9_max_f86c9 : MethodName := ⟨RJ9, "max", "(JJ)J"⟩
abbrev cJ9_min_7cf53 : ByteArray := prog_17_method_69_code
def yJ9_min_7cf53 : MethodName := ⟨RJ9, "min", "(II)I"⟩
abbrev cJ9_min_f86c9 : ByteArray := prog_17_method_70_code
def yJ9_min_f86c9 : MethodName := ⟨RJ9, "min", "(JJ)J"⟩
def RJ0 : String := "java/lang/String"
def TJ0 : u_T := fun k => match k with
  | _ => ("", "", "", false)
def tyJ0 : Nat → FieldType := fun k => match k with
  | _ => .int
abbrev wsJ00 : List Cond := u_ws RJ0 TJ0 0
theorem nmJ0 : ∀ a, a < 0 → ∀ b, b < 0 → a ≠ b → (TJ0 a).2.1 ≠ (TJ0 b).2.1 := by decide +kernel
theorem tyJ0_ok : ∀ k, k < 0 → parseFieldDescriptor (TJ0 k).2.2.1 = some (tyJ0 k) := by decide +kernel
abbrev cJ0_length_8abf5 : ByteArray := prog_18_method_54_code
def yJ0_length_8abf5 : MethodName := ⟨RJ0, "length", "()I"⟩
abbrev cJ0_charAt_5068e : ByteArray := prog_18_method_56_code
def yJ0_charAt_5068e : MethodName := ⟨RJ0, "charAt", "(I)C"⟩
abbrev cJ0_coder_7d493 : ByteArray := prog_18_method_152_code
def yJ0_coder_7d493 : MethodName := ⟨RJ0, "coder", "()B"⟩
abbrev cJ0_isLatin1_aae02 : ByteArray := prog_18_method_154_code
def yJ0_isLatin1_aae02 : MethodName := ⟨RJ0, "isLatin1", "()Z"⟩
abbrev cJ0_checkIndex_df160 : ByteArray := prog_18_method_155_code
def yJ0_checkIndex_df160 : MethodName := ⟨RJ0, "checkIndex", "(II)V"⟩
def RJ1 : String := "java/lang/StringLatin1"
def TJ1 : u_T := fun k => match k with
  | _ => ("", "", "", false)
def tyJ1 : Nat → FieldType := fun k => match k with
  | _ => .int
abbrev wsJ10 : List Cond := u_ws RJ1 TJ1 0
theorem nmJ1 : ∀ a, a < 0 → ∀ b, b < 0 → a ≠ b → (TJ1 a).2.1 ≠ (TJ1 b).2.1 := by decide +kernel
theorem tyJ1_ok : ∀ k, k < 0 → parseFieldDescriptor (TJ1 k).2.2.1 = some (tyJ1 k) := by decide +kernel
abbrev cJ1_charAt_3b067 : ByteArray := prog_19_method_2_code
def yJ1_charAt_3b067 : MethodName := ⟨RJ1, "charAt", "([BI)C"⟩
def RJ2 : String := "java/lang/StringUTF16"
def TJ2 : u_T := fun k => match k with
  | _ => ("", "", "", false)
def tyJ2 : Nat → FieldType := fun k => match k with
  | _ => .int
abbrev wsJ20 : List Cond := u_ws RJ2 TJ2 0
theorem nmJ2 : ∀ a, a < 0 → ∀ b, b < 0 → a ≠ b → (TJ2 a).2.1 ≠ (TJ2 b).2.1 := by decide +kernel
theorem tyJ2_ok : ∀ k, k < 0 → parseFieldDescriptor (TJ2 k).2.2.1 = some (tyJ2 k) := by decide +kernel
abbrev cJ2_getChar_3b067 : ByteArray := prog_20_method_5_code
def yJ2_getChar_3b067 : MethodName := ⟨RJ2, "getChar", "([BI)C"⟩
abbrev cJ2_length_9d52b : ByteArray := prog_20_method_6_code
def yJ2_length_9d52b : MethodName := ⟨RJ2, "length", "([B)I"⟩
abbrev cJ2_charAt_3b067 : ByteArray := prog_20_method_83_code
def yJ2_charAt_3b067 : MethodName := ⟨RJ2, "charAt", "([BI)C"⟩
abbrev cJ2_checkIndex_2214a : ByteArray := prog_20_method_91_code
def yJ2_checkIndex_2214a : MethodName := ⟨RJ2, "checkIndex", "(I[B)V"⟩
def RJ10 : String := "java/lang/System"
def TJ10 : u_T := fun k => match k with
  | _ => ("", "", "", false)
def tyJ10 : Nat → FieldType := fun k => match k with
  | _ => .int
abbrev wsJ100 : List Cond := u_ws RJ10 TJ10 0
theorem nmJ10 : ∀ a, a < 0 → ∀ b, b < 0 → a ≠ b → (TJ10 a).2.1 ≠ (TJ10 b).2.1 := by decide +kernel
theorem tyJ10_ok : ∀ k, k < 0 → parseFieldDescriptor (TJ10 k).2.2.1 = some (tyJ10 k) := by decide +kernel
def RJxfd54e : String := "java/lang/constant/Constable"
def TJxfd54e : u_T := fun k => match k with
  | _ => ("", "", "", false)
def tyJxfd54e : Nat → FieldType := fun k => match k with
  | _ => .int
abbrev wsJxfd54e0 : List Cond := u_ws RJxfd54e TJxfd54e 0
theorem nmJxfd54e : ∀ a, a < 0 → ∀ b, b < 0 → a ≠ b → (TJxfd54e a).2.1 ≠ (TJxfd54e b).2.1 := by decide +kernel
theorem tyJxfd54e_ok : ∀ k, k < 0 → parseFieldDescriptor (TJxfd54e k).2.2.1 = some (tyJxfd54e k) := by decide +kernel
def RJx3cf43 : String := "java/lang/constant/ConstantDesc"
def TJx3cf43 : u_T := fun k => match k with
  | _ => ("", "", "", false)
def tyJx3cf43 : Nat → FieldType := fun k => match k with
  | _ => .int
abbrev wsJx3cf430 : List Cond := u_ws RJx3cf43 TJx3cf43 0
theorem nmJx3cf43 : ∀ a, a < 0 → ∀ b, b < 0 → a ≠ b → (TJx3cf43 a).2.1 ≠ (TJx3cf43 b).2.1 := by decide +kernel
theorem tyJx3cf43_ok : ∀ k, k < 0 → parseFieldDescriptor (TJx3cf43 k).2.2.1 = some (tyJx3cf43 k) := by decide +kernel
def RJ7 : String := "java/util/Arrays"
def TJ7 : u_T := fun k => match k with
  | _ => ("", "", "", false)
def tyJ7 : Nat → FieldType := fun k => match k with
  | _ => .int
abbrev wsJ70 : List Cond := u_ws RJ7 TJ7 0
theorem nmJ7 : ∀ a, a < 0 → ∀ b, b < 0 → a ≠ b → (TJ7 a).2.1 ≠ (TJ7 b).2.1 := by decide +kernel
theorem tyJ7_ok : ∀ k, k < 0 → parseFieldDescriptor (TJ7 k).2.2.1 = some (tyJ7 k) := by decide +kernel
abbrev cJ7_fill_d0a16 : ByteArray := prog_22_method_101_code
def yJ7_fill_d0a16 : MethodName := ⟨RJ7, "fill", "([JJ)V"⟩
abbrev cJ7_fill_53178 : ByteArray := prog_22_method_103_code
def yJ7_fill_53178 : MethodName := ⟨RJ7, "fill", "([II)V"⟩
def RJ3 : String := "jdk/internal/util/Preconditions"
def TJ3 : u_T := fun k => match k with
  | _ => ("", "", "", false)
def tyJ3 : Nat → FieldType := fun k => match k with
  | _ => .int
abbrev wsJ30 : List Cond := u_ws RJ3 TJ3 0
theorem nmJ3 : ∀ a, a < 0 → ∀ b, b < 0 → a ≠ b → (TJ3 a).2.1 ≠ (TJ3 b).2.1 := by decide +kernel
theorem tyJ3_ok : ∀ k, k < 0 → parseFieldDescriptor (TJ3 k).2.2.1 = some (tyJ3 k) := by decide +kernel
abbrev cJ3_checkIndex_8e157 : ByteArray := prog_23_method_11_code
def yJ3_checkIndex_8e157 : MethodName := ⟨RJ3, "checkIndex", "(IILjava/util/function/BiFunction;)I"⟩
def RL : String := "LuckLinksLaw"
abbrev cL_law : ByteArray := code
def yL_law : MethodName := ⟨RL, "law", "([I)Z"⟩
