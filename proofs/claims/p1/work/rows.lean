section
-- ===== PART A: goes FIRST, ahead of the names: the tables' words, and 'selects' of the private methods out of them =====
/-- a private method of a class that the tables say can be made, by its rows of tables_1 -/
def lw_okq (q : MethodName × Nat) : Prop := (q.1.cls ≠ "java/lang/invoke/MethodHandle" ∧ q.1.cls ≠ "java/lang/invoke/VarHandle") ∧ Cond.instantiable q.1.cls q.2 ∈ tables_1 ∧ Cond.privateMethod q.1 ∈ tables_1 ∧ Cond.instanceMethod q.1 ∈ tables_1
theorem lw_p0 : lw_okq (⟨"LuckLinks", "refuse", "(I)I"⟩, 17) := ⟨⟨by decide +kernel, by decide +kernel⟩, List.mem_of_getElem? (i := 24) (by decide +kernel), List.mem_of_getElem? (i := 474) (by decide +kernel), List.mem_of_getElem? (i := 475) (by decide +kernel)⟩
theorem lw_p1 : lw_okq (⟨"LuckLinks$World", "addValue", "(IIII)V"⟩, 12) := ⟨⟨by decide +kernel, by decide +kernel⟩, List.mem_of_getElem? (i := 32) (by decide +kernel), List.mem_of_getElem? (i := 534) (by decide +kernel), List.mem_of_getElem? (i := 535) (by decide +kernel)⟩
theorem lw_p2 : lw_okq (⟨"LuckLinks", "feedNumber", "(I)V"⟩, 17) := ⟨⟨by decide +kernel, by decide +kernel⟩, List.mem_of_getElem? (i := 24) (by decide +kernel), List.mem_of_getElem? (i := 559) (by decide +kernel), List.mem_of_getElem? (i := 560) (by decide +kernel)⟩
theorem lw_p3 : lw_okq (⟨"LuckLinks$LawReader", "split", "(I)V"⟩, 12) := ⟨⟨by decide +kernel, by decide +kernel⟩, List.mem_of_getElem? (i := 91) (by decide +kernel), List.mem_of_getElem? (i := 578) (by decide +kernel), List.mem_of_getElem? (i := 579) (by decide +kernel)⟩
theorem lw_p4 : lw_okq (⟨"LuckLinks$LawReader", "readRule", "()Z"⟩, 12) := ⟨⟨by decide +kernel, by decide +kernel⟩, List.mem_of_getElem? (i := 91) (by decide +kernel), List.mem_of_getElem? (i := 589) (by decide +kernel), List.mem_of_getElem? (i := 590) (by decide +kernel)⟩
theorem lw_p5 : lw_okq (⟨"LuckLinks$LawReader", "takeWord", "(Ljava/lang/String;)Z"⟩, 12) := ⟨⟨by decide +kernel, by decide +kernel⟩, List.mem_of_getElem? (i := 91) (by decide +kernel), List.mem_of_getElem? (i := 594) (by decide +kernel), List.mem_of_getElem? (i := 595) (by decide +kernel)⟩
theorem lw_p6 : lw_okq (⟨"LuckLinks$LawReader", "step", "()V"⟩, 12) := ⟨⟨by decide +kernel, by decide +kernel⟩, List.mem_of_getElem? (i := 91) (by decide +kernel), List.mem_of_getElem? (i := 646) (by decide +kernel), List.mem_of_getElem? (i := 647) (by decide +kernel)⟩
theorem lw_p7 : lw_okq (⟨"LuckLinks$LawReader", "takePart", "()Z"⟩, 12) := ⟨⟨by decide +kernel, by decide +kernel⟩, List.mem_of_getElem? (i := 91) (by decide +kernel), List.mem_of_getElem? (i := 650) (by decide +kernel), List.mem_of_getElem? (i := 651) (by decide +kernel)⟩
theorem lw_p8 : lw_okq (⟨"LuckLinks$LawReader", "readAmount", "([I)Z"⟩, 12) := ⟨⟨by decide +kernel, by decide +kernel⟩, List.mem_of_getElem? (i := 91) (by decide +kernel), List.mem_of_getElem? (i := 661) (by decide +kernel), List.mem_of_getElem? (i := 662) (by decide +kernel)⟩
theorem lw_p9 : lw_okq (⟨"LuckLinks$LawReader", "readEntry", "([III)Z"⟩, 12) := ⟨⟨by decide +kernel, by decide +kernel⟩, List.mem_of_getElem? (i := 91) (by decide +kernel), List.mem_of_getElem? (i := 665) (by decide +kernel), List.mem_of_getElem? (i := 666) (by decide +kernel)⟩
theorem lw_p10 : lw_okq (⟨"LuckLinks$LawReader", "takeNumber", "(II)Z"⟩, 12) := ⟨⟨by decide +kernel, by decide +kernel⟩, List.mem_of_getElem? (i := 91) (by decide +kernel), List.mem_of_getElem? (i := 669) (by decide +kernel), List.mem_of_getElem? (i := 670) (by decide +kernel)⟩
theorem lw_p11 : lw_okq (⟨"LuckLinks$LawReader", "readHour", "()Z"⟩, 12) := ⟨⟨by decide +kernel, by decide +kernel⟩, List.mem_of_getElem? (i := 91) (by decide +kernel), List.mem_of_getElem? (i := 675) (by decide +kernel), List.mem_of_getElem? (i := 676) (by decide +kernel)⟩
theorem lw_p12 : lw_okq (⟨"LuckLinks$LawReader", "readPress", "()Z"⟩, 12) := ⟨⟨by decide +kernel, by decide +kernel⟩, List.mem_of_getElem? (i := 91) (by decide +kernel), List.mem_of_getElem? (i := 685) (by decide +kernel), List.mem_of_getElem? (i := 686) (by decide +kernel)⟩
theorem lw_p13 : lw_okq (⟨"LuckLinks$LawReader", "readAny", "()Z"⟩, 12) := ⟨⟨by decide +kernel, by decide +kernel⟩, List.mem_of_getElem? (i := 91) (by decide +kernel), List.mem_of_getElem? (i := 692) (by decide +kernel), List.mem_of_getElem? (i := 693) (by decide +kernel)⟩
theorem lw_p14 : lw_okq (⟨"LuckLinks$LawReader", "await", "(I)V"⟩, 12) := ⟨⟨by decide +kernel, by decide +kernel⟩, List.mem_of_getElem? (i := 91) (by decide +kernel), List.mem_of_getElem? (i := 697) (by decide +kernel), List.mem_of_getElem? (i := 698) (by decide +kernel)⟩
theorem lw_p15 : lw_okq (⟨"LuckLinks$LawReader", "takeSign", "(C)Z"⟩, 12) := ⟨⟨by decide +kernel, by decide +kernel⟩, List.mem_of_getElem? (i := 91) (by decide +kernel), List.mem_of_getElem? (i := 701) (by decide +kernel), List.mem_of_getElem? (i := 702) (by decide +kernel)⟩
def lw_privs_1 : List (MethodName × Nat) := [(⟨"LuckLinks", "refuse", "(I)I"⟩, 17), (⟨"LuckLinks$World", "addValue", "(IIII)V"⟩, 12), (⟨"LuckLinks", "feedNumber", "(I)V"⟩, 17), (⟨"LuckLinks$LawReader", "split", "(I)V"⟩, 12), (⟨"LuckLinks$LawReader", "readRule", "()Z"⟩, 12), (⟨"LuckLinks$LawReader", "takeWord", "(Ljava/lang/String;)Z"⟩, 12), (⟨"LuckLinks$LawReader", "step", "()V"⟩, 12), (⟨"LuckLinks$LawReader", "takePart", "()Z"⟩, 12), (⟨"LuckLinks$LawReader", "readAmount", "([I)Z"⟩, 12), (⟨"LuckLinks$LawReader", "readEntry", "([III)Z"⟩, 12), (⟨"LuckLinks$LawReader", "takeNumber", "(II)Z"⟩, 12), (⟨"LuckLinks$LawReader", "readHour", "()Z"⟩, 12), (⟨"LuckLinks$LawReader", "readPress", "()Z"⟩, 12), (⟨"LuckLinks$LawReader", "readAny", "()Z"⟩, 12), (⟨"LuckLinks$LawReader", "await", "(I)V"⟩, 12), (⟨"LuckLinks$LawReader", "takeSign", "(C)Z"⟩, 12)]
theorem lw_r1 : ∀ q ∈ lw_privs_1, lw_okq q := List.forall_mem_cons.mpr ⟨lw_p0, List.forall_mem_cons.mpr ⟨lw_p1, List.forall_mem_cons.mpr ⟨lw_p2, List.forall_mem_cons.mpr ⟨lw_p3, List.forall_mem_cons.mpr ⟨lw_p4, List.forall_mem_cons.mpr ⟨lw_p5, List.forall_mem_cons.mpr ⟨lw_p6, List.forall_mem_cons.mpr ⟨lw_p7, List.forall_mem_cons.mpr ⟨lw_p8, List.forall_mem_cons.mpr ⟨lw_p9, List.forall_mem_cons.mpr ⟨lw_p10, List.forall_mem_cons.mpr ⟨lw_p11, List.forall_mem_cons.mpr ⟨lw_p12, List.forall_mem_cons.mpr ⟨lw_p13, List.forall_mem_cons.mpr ⟨lw_p14, List.forall_mem_cons.mpr ⟨lw_p15, fun _ h => absurd h List.not_mem_nil⟩⟩⟩⟩⟩⟩⟩⟩⟩⟩⟩⟩⟩⟩⟩⟩
theorem lw_p16 : lw_okq (⟨"LuckLinks$LawReader", "readComparison", "()Z"⟩, 12) := ⟨⟨by decide +kernel, by decide +kernel⟩, List.mem_of_getElem? (i := 91) (by decide +kernel), List.mem_of_getElem? (i := 705) (by decide +kernel), List.mem_of_getElem? (i := 706) (by decide +kernel)⟩
theorem lw_p17 : lw_okq (⟨"LuckLinks$LawReader", "endOne", "()V"⟩, 12) := ⟨⟨by decide +kernel, by decide +kernel⟩, List.mem_of_getElem? (i := 91) (by decide +kernel), List.mem_of_getElem? (i := 724) (by decide +kernel), List.mem_of_getElem? (i := 725) (by decide +kernel)⟩
theorem lw_p18 : lw_okq (⟨"LuckLinks$LawReader", "emitDownTo", "(I)V"⟩, 12) := ⟨⟨by decide +kernel, by decide +kernel⟩, List.mem_of_getElem? (i := 91) (by decide +kernel), List.mem_of_getElem? (i := 728) (by decide +kernel), List.mem_of_getElem? (i := 729) (by decide +kernel)⟩
theorem lw_p19 : lw_okq (⟨"LuckLinks$LawReader", "takeJoin", "()I"⟩, 12) := ⟨⟨by decide +kernel, by decide +kernel⟩, List.mem_of_getElem? (i := 91) (by decide +kernel), List.mem_of_getElem? (i := 732) (by decide +kernel), List.mem_of_getElem? (i := 733) (by decide +kernel)⟩
theorem lw_p20 : lw_okq (⟨"LuckLinks$WeekDrawing", "drift", "(ILLuckLinks$Law;)V"⟩, 4) := ⟨⟨by decide +kernel, by decide +kernel⟩, List.mem_of_getElem? (i := 233) (by decide +kernel), List.mem_of_getElem? (i := 780) (by decide +kernel), List.mem_of_getElem? (i := 781) (by decide +kernel)⟩
theorem lw_p21 : lw_okq (⟨"LuckLinks$WeekDrawing", "draw", "(I)I"⟩, 4) := ⟨⟨by decide +kernel, by decide +kernel⟩, List.mem_of_getElem? (i := 233) (by decide +kernel), List.mem_of_getElem? (i := 788) (by decide +kernel), List.mem_of_getElem? (i := 789) (by decide +kernel)⟩
theorem lw_p22 : lw_okq (⟨"LuckLinks$WeekDrawing", "drawDay", "(IIILLuckLinks$Law;)V"⟩, 4) := ⟨⟨by decide +kernel, by decide +kernel⟩, List.mem_of_getElem? (i := 233) (by decide +kernel), List.mem_of_getElem? (i := 802) (by decide +kernel), List.mem_of_getElem? (i := 803) (by decide +kernel)⟩
theorem lw_p23 : lw_okq (⟨"LuckLinks$WeekDrawing", "drawStrokes", "(ILLuckLinks$Law;)I"⟩, 4) := ⟨⟨by decide +kernel, by decide +kernel⟩, List.mem_of_getElem? (i := 233) (by decide +kernel), List.mem_of_getElem? (i := 831) (by decide +kernel), List.mem_of_getElem? (i := 832) (by decide +kernel)⟩
theorem lw_p24 : lw_okq (⟨"LuckLinks$Law", "holds", "(II[I)Z"⟩, 19) := ⟨⟨by decide +kernel, by decide +kernel⟩, List.mem_of_getElem? (i := 97) (by decide +kernel), List.mem_of_getElem? (i := 847) (by decide +kernel), List.mem_of_getElem? (i := 848) (by decide +kernel)⟩
theorem lw_p25 : lw_okq (⟨"LuckLinks$WeekDrawing", "goOn", "(IIII)I"⟩, 4) := ⟨⟨by decide +kernel, by decide +kernel⟩, List.mem_of_getElem? (i := 233) (by decide +kernel), List.mem_of_getElem? (i := 857) (by decide +kernel), List.mem_of_getElem? (i := 858) (by decide +kernel)⟩
theorem lw_p26 : lw_okq (⟨"LuckLinks$Standings", "lastDayOf", "(I)I"⟩, 3) := ⟨⟨by decide +kernel, by decide +kernel⟩, List.mem_of_getElem? (i := 268) (by decide +kernel), List.mem_of_getElem? (i := 894) (by decide +kernel), List.mem_of_getElem? (i := 895) (by decide +kernel)⟩
theorem lw_p27 : lw_okq (⟨"LuckLinks$Standings", "rankBySums", "(II)V"⟩, 3) := ⟨⟨by decide +kernel, by decide +kernel⟩, List.mem_of_getElem? (i := 268) (by decide +kernel), List.mem_of_getElem? (i := 900) (by decide +kernel), List.mem_of_getElem? (i := 901) (by decide +kernel)⟩
theorem lw_p28 : lw_okq (⟨"LuckLinks$Standings", "addShares", "(I[I)V"⟩, 3) := ⟨⟨by decide +kernel, by decide +kernel⟩, List.mem_of_getElem? (i := 268) (by decide +kernel), List.mem_of_getElem? (i := 920) (by decide +kernel), List.mem_of_getElem? (i := 921) (by decide +kernel)⟩
theorem lw_p29 : lw_okq (⟨"LuckLinks$Tallies", "addCouplesOfOne", "(III)V"⟩, 8) := ⟨⟨by decide +kernel, by decide +kernel⟩, List.mem_of_getElem? (i := 377) (by decide +kernel), List.mem_of_getElem? (i := 948) (by decide +kernel), List.mem_of_getElem? (i := 949) (by decide +kernel)⟩
theorem lw_p30 : lw_okq (⟨"LuckLinks$Tallies", "addCouples", "(JJJ)V"⟩, 8) := ⟨⟨by decide +kernel, by decide +kernel⟩, List.mem_of_getElem? (i := 377) (by decide +kernel), List.mem_of_getElem? (i := 954) (by decide +kernel), List.mem_of_getElem? (i := 955) (by decide +kernel)⟩
theorem lw_p31 : lw_okq (⟨"LuckLinks$Tallies", "addCouplesOfDay", "(III)V"⟩, 8) := ⟨⟨by decide +kernel, by decide +kernel⟩, List.mem_of_getElem? (i := 377) (by decide +kernel), List.mem_of_getElem? (i := 959) (by decide +kernel), List.mem_of_getElem? (i := 960) (by decide +kernel)⟩
def lw_privs_2 : List (MethodName × Nat) := [(⟨"LuckLinks$LawReader", "readComparison", "()Z"⟩, 12), (⟨"LuckLinks$LawReader", "endOne", "()V"⟩, 12), (⟨"LuckLinks$LawReader", "emitDownTo", "(I)V"⟩, 12), (⟨"LuckLinks$LawReader", "takeJoin", "()I"⟩, 12), (⟨"LuckLinks$WeekDrawing", "drift", "(ILLuckLinks$Law;)V"⟩, 4), (⟨"LuckLinks$WeekDrawing", "draw", "(I)I"⟩, 4), (⟨"LuckLinks$WeekDrawing", "drawDay", "(IIILLuckLinks$Law;)V"⟩, 4), (⟨"LuckLinks$WeekDrawing", "drawStrokes", "(ILLuckLinks$Law;)I"⟩, 4), (⟨"LuckLinks$Law", "holds", "(II[I)Z"⟩, 19), (⟨"LuckLinks$WeekDrawing", "goOn", "(IIII)I"⟩, 4), (⟨"LuckLinks$Standings", "lastDayOf", "(I)I"⟩, 3), (⟨"LuckLinks$Standings", "rankBySums", "(II)V"⟩, 3), (⟨"LuckLinks$Standings", "addShares", "(I[I)V"⟩, 3), (⟨"LuckLinks$Tallies", "addCouplesOfOne", "(III)V"⟩, 8), (⟨"LuckLinks$Tallies", "addCouples", "(JJJ)V"⟩, 8), (⟨"LuckLinks$Tallies", "addCouplesOfDay", "(III)V"⟩, 8)]
theorem lw_r2 : ∀ q ∈ lw_privs_2, lw_okq q := List.forall_mem_cons.mpr ⟨lw_p16, List.forall_mem_cons.mpr ⟨lw_p17, List.forall_mem_cons.mpr ⟨lw_p18, List.forall_mem_cons.mpr ⟨lw_p19, List.forall_mem_cons.mpr ⟨lw_p20, List.forall_mem_cons.mpr ⟨lw_p21, List.forall_mem_cons.mpr ⟨lw_p22, List.forall_mem_cons.mpr ⟨lw_p23, List.forall_mem_cons.mpr ⟨lw_p24, List.forall_mem_cons.mpr ⟨lw_p25, List.forall_mem_cons.mpr ⟨lw_p26, List.forall_mem_cons.mpr ⟨lw_p27, List.forall_mem_cons.mpr ⟨lw_p28, List.forall_mem_cons.mpr ⟨lw_p29, List.forall_mem_cons.mpr ⟨lw_p30, List.forall_mem_cons.mpr ⟨lw_p31, fun _ h => absurd h List.not_mem_nil⟩⟩⟩⟩⟩⟩⟩⟩⟩⟩⟩⟩⟩⟩⟩⟩
theorem lw_p32 : lw_okq (⟨"LuckLinks$Form", "roundsIn", "(II)I"⟩, 5) := ⟨⟨by decide +kernel, by decide +kernel⟩, List.mem_of_getElem? (i := 286) (by decide +kernel), List.mem_of_getElem? (i := 1022) (by decide +kernel), List.mem_of_getElem? (i := 1023) (by decide +kernel)⟩
theorem lw_p33 : lw_okq (⟨"LuckLinks$Form", "offsIn", "(II)J"⟩, 5) := ⟨⟨by decide +kernel, by decide +kernel⟩, List.mem_of_getElem? (i := 286) (by decide +kernel), List.mem_of_getElem? (i := 1030) (by decide +kernel), List.mem_of_getElem? (i := 1031) (by decide +kernel)⟩
theorem lw_p34 : lw_okq (⟨"LuckLinks$Chances", "fillLot", "(LLuckLinks$Law;)V"⟩, 9) := ⟨⟨by decide +kernel, by decide +kernel⟩, List.mem_of_getElem? (i := 343) (by decide +kernel), List.mem_of_getElem? (i := 1094) (by decide +kernel), List.mem_of_getElem? (i := 1095) (by decide +kernel)⟩
theorem lw_p35 : lw_okq (⟨"LuckLinks$Chances", "addDraw", "(I)V"⟩, 9) := ⟨⟨by decide +kernel, by decide +kernel⟩, List.mem_of_getElem? (i := 343) (by decide +kernel), List.mem_of_getElem? (i := 1102) (by decide +kernel), List.mem_of_getElem? (i := 1103) (by decide +kernel)⟩
theorem lw_p36 : lw_okq (⟨"LuckLinks$Chances", "lotAbove", "(I)J"⟩, 9) := ⟨⟨by decide +kernel, by decide +kernel⟩, List.mem_of_getElem? (i := 343) (by decide +kernel), List.mem_of_getElem? (i := 1111) (by decide +kernel), List.mem_of_getElem? (i := 1112) (by decide +kernel)⟩
theorem lw_p37 : lw_okq (⟨"LuckLinks$Chances", "fillStep", "()V"⟩, 9) := ⟨⟨by decide +kernel, by decide +kernel⟩, List.mem_of_getElem? (i := 343) (by decide +kernel), List.mem_of_getElem? (i := 1123) (by decide +kernel), List.mem_of_getElem? (i := 1124) (by decide +kernel)⟩
theorem lw_p38 : lw_okq (⟨"LuckLinks$Chances", "gapsAbove", "(II)J"⟩, 9) := ⟨⟨by decide +kernel, by decide +kernel⟩, List.mem_of_getElem? (i := 343) (by decide +kernel), List.mem_of_getElem? (i := 1131) (by decide +kernel), List.mem_of_getElem? (i := 1132) (by decide +kernel)⟩
theorem lw_p39 : lw_okq (⟨"LuckLinks$Chances", "addStep", "(I)V"⟩, 9) := ⟨⟨by decide +kernel, by decide +kernel⟩, List.mem_of_getElem? (i := 343) (by decide +kernel), List.mem_of_getElem? (i := 1135) (by decide +kernel), List.mem_of_getElem? (i := 1136) (by decide +kernel)⟩
theorem lw_p40 : lw_okq (⟨"LuckLinks$Halves", "gatherHalf", "(III[J[J)V"⟩, 8) := ⟨⟨by decide +kernel, by decide +kernel⟩, List.mem_of_getElem? (i := 309) (by decide +kernel), List.mem_of_getElem? (i := 1150) (by decide +kernel), List.mem_of_getElem? (i := 1151) (by decide +kernel)⟩
theorem lw_p41 : lw_okq (⟨"LuckLinks$Halves", "isInBoth", "(I)Z"⟩, 8) := ⟨⟨by decide +kernel, by decide +kernel⟩, List.mem_of_getElem? (i := 309) (by decide +kernel), List.mem_of_getElem? (i := 1156) (by decide +kernel), List.mem_of_getElem? (i := 1157) (by decide +kernel)⟩
theorem lw_p42 : lw_okq (⟨"LuckLinks$Halves", "compareWithThoseAhead", "(I)V"⟩, 8) := ⟨⟨by decide +kernel, by decide +kernel⟩, List.mem_of_getElem? (i := 309) (by decide +kernel), List.mem_of_getElem? (i := 1160) (by decide +kernel), List.mem_of_getElem? (i := 1161) (by decide +kernel)⟩
theorem lw_p43 : lw_okq (⟨"LuckLinks$Standings", "rankByGains", "(III[I)V"⟩, 3) := ⟨⟨by decide +kernel, by decide +kernel⟩, List.mem_of_getElem? (i := 268) (by decide +kernel), List.mem_of_getElem? (i := 1196) (by decide +kernel), List.mem_of_getElem? (i := 1197) (by decide +kernel)⟩
theorem lw_p44 : lw_okq (⟨"LuckLinks$Form", "foretold", "(IIILLuckLinks$Law;)I"⟩, 5) := ⟨⟨by decide +kernel, by decide +kernel⟩, List.mem_of_getElem? (i := 286) (by decide +kernel), List.mem_of_getElem? (i := 1216) (by decide +kernel), List.mem_of_getElem? (i := 1217) (by decide +kernel)⟩
theorem lw_p45 : lw_okq (⟨"LuckLinks$Form", "latest", "(II)I"⟩, 5) := ⟨⟨by decide +kernel, by decide +kernel⟩, List.mem_of_getElem? (i := 286) (by decide +kernel), List.mem_of_getElem? (i := 1224) (by decide +kernel), List.mem_of_getElem? (i := 1225) (by decide +kernel)⟩
theorem lw_p46 : lw_okq (⟨"LuckLinksModel", "refuses", "(I)I"⟩, 75) := ⟨⟨by decide +kernel, by decide +kernel⟩, List.mem_of_getElem? (i := 1313) (by decide +kernel), List.mem_of_getElem? (i := 1550) (by decide +kernel), List.mem_of_getElem? (i := 1551) (by decide +kernel)⟩
theorem lw_p47 : lw_okq (⟨"LuckLinksModel", "copies", "(II)V"⟩, 75) := ⟨⟨by decide +kernel, by decide +kernel⟩, List.mem_of_getElem? (i := 1313) (by decide +kernel), List.mem_of_getElem? (i := 1554) (by decide +kernel), List.mem_of_getElem? (i := 1555) (by decide +kernel)⟩
def lw_privs_3 : List (MethodName × Nat) := [(⟨"LuckLinks$Form", "roundsIn", "(II)I"⟩, 5), (⟨"LuckLinks$Form", "offsIn", "(II)J"⟩, 5), (⟨"LuckLinks$Chances", "fillLot", "(LLuckLinks$Law;)V"⟩, 9), (⟨"LuckLinks$Chances", "addDraw", "(I)V"⟩, 9), (⟨"LuckLinks$Chances", "lotAbove", "(I)J"⟩, 9), (⟨"LuckLinks$Chances", "fillStep", "()V"⟩, 9), (⟨"LuckLinks$Chances", "gapsAbove", "(II)J"⟩, 9), (⟨"LuckLinks$Chances", "addStep", "(I)V"⟩, 9), (⟨"LuckLinks$Halves", "gatherHalf", "(III[J[J)V"⟩, 8), (⟨"LuckLinks$Halves", "isInBoth", "(I)Z"⟩, 8), (⟨"LuckLinks$Halves", "compareWithThoseAhead", "(I)V"⟩, 8), (⟨"LuckLinks$Standings", "rankByGains", "(III[I)V"⟩, 3), (⟨"LuckLinks$Form", "foretold", "(IIILLuckLinks$Law;)I"⟩, 5), (⟨"LuckLinks$Form", "latest", "(II)I"⟩, 5), (⟨"LuckLinksModel", "refuses", "(I)I"⟩, 75), (⟨"LuckLinksModel", "copies", "(II)V"⟩, 75)]
theorem lw_r3 : ∀ q ∈ lw_privs_3, lw_okq q := List.forall_mem_cons.mpr ⟨lw_p32, List.forall_mem_cons.mpr ⟨lw_p33, List.forall_mem_cons.mpr ⟨lw_p34, List.forall_mem_cons.mpr ⟨lw_p35, List.forall_mem_cons.mpr ⟨lw_p36, List.forall_mem_cons.mpr ⟨lw_p37, List.forall_mem_cons.mpr ⟨lw_p38, List.forall_mem_cons.mpr ⟨lw_p39, List.forall_mem_cons.mpr ⟨lw_p40, List.forall_mem_cons.mpr ⟨lw_p41, List.forall_mem_cons.mpr ⟨lw_p42, List.forall_mem_cons.mpr ⟨lw_p43, List.forall_mem_cons.mpr ⟨lw_p44, List.forall_mem_cons.mpr ⟨lw_p45, List.forall_mem_cons.mpr ⟨lw_p46, List.forall_mem_cons.mpr ⟨lw_p47, fun _ h => absurd h List.not_mem_nil⟩⟩⟩⟩⟩⟩⟩⟩⟩⟩⟩⟩⟩⟩⟩⟩
theorem lw_p48 : lw_okq (⟨"LuckLinksModel", "isNot", "()Z"⟩, 75) := ⟨⟨by decide +kernel, by decide +kernel⟩, List.mem_of_getElem? (i := 1313) (by decide +kernel), List.mem_of_getElem? (i := 1565) (by decide +kernel), List.mem_of_getElem? (i := 1566) (by decide +kernel)⟩
theorem lw_p49 : lw_okq (⟨"LuckLinksModel", "isPlayer", "(I)Z"⟩, 75) := ⟨⟨by decide +kernel, by decide +kernel⟩, List.mem_of_getElem? (i := 1313) (by decide +kernel), List.mem_of_getElem? (i := 1588) (by decide +kernel), List.mem_of_getElem? (i := 1589) (by decide +kernel)⟩
theorem lw_p50 : lw_okq (⟨"LuckLinksModel", "adds", "(II)V"⟩, 75) := ⟨⟨by decide +kernel, by decide +kernel⟩, List.mem_of_getElem? (i := 1313) (by decide +kernel), List.mem_of_getElem? (i := 1596) (by decide +kernel), List.mem_of_getElem? (i := 1597) (by decide +kernel)⟩
theorem lw_p51 : lw_okq (⟨"LuckLinksModel", "clears", "()V"⟩, 75) := ⟨⟨by decide +kernel, by decide +kernel⟩, List.mem_of_getElem? (i := 1313) (by decide +kernel), List.mem_of_getElem? (i := 1617) (by decide +kernel), List.mem_of_getElem? (i := 1618) (by decide +kernel)⟩
theorem lw_p52 : lw_okq (⟨"LuckLinksModel", "next", "()V"⟩, 75) := ⟨⟨by decide +kernel, by decide +kernel⟩, List.mem_of_getElem? (i := 1313) (by decide +kernel), List.mem_of_getElem? (i := 1621) (by decide +kernel), List.mem_of_getElem? (i := 1622) (by decide +kernel)⟩
theorem lw_p53 : lw_okq (⟨"LuckLinksModel", "here", "()I"⟩, 75) := ⟨⟨by decide +kernel, by decide +kernel⟩, List.mem_of_getElem? (i := 1313) (by decide +kernel), List.mem_of_getElem? (i := 1625) (by decide +kernel), List.mem_of_getElem? (i := 1626) (by decide +kernel)⟩
theorem lw_p54 : lw_okq (⟨"LuckLinksModel", "readRule", "()V"⟩, 75) := ⟨⟨by decide +kernel, by decide +kernel⟩, List.mem_of_getElem? (i := 1313) (by decide +kernel), List.mem_of_getElem? (i := 1632) (by decide +kernel), List.mem_of_getElem? (i := 1633) (by decide +kernel)⟩
theorem lw_p55 : lw_okq (⟨"LuckLinksModel", "ruleHere", "()I"⟩, 75) := ⟨⟨by decide +kernel, by decide +kernel⟩, List.mem_of_getElem? (i := 1313) (by decide +kernel), List.mem_of_getElem? (i := 1636) (by decide +kernel), List.mem_of_getElem? (i := 1637) (by decide +kernel)⟩
theorem lw_p56 : lw_okq (⟨"LuckLinksModel", "errs", "()V"⟩, 75) := ⟨⟨by decide +kernel, by decide +kernel⟩, List.mem_of_getElem? (i := 1313) (by decide +kernel), List.mem_of_getElem? (i := 1648) (by decide +kernel), List.mem_of_getElem? (i := 1649) (by decide +kernel)⟩
theorem lw_p57 : lw_okq (⟨"LuckLinksModel", "partHere", "()I"⟩, 75) := ⟨⟨by decide +kernel, by decide +kernel⟩, List.mem_of_getElem? (i := 1313) (by decide +kernel), List.mem_of_getElem? (i := 1652) (by decide +kernel), List.mem_of_getElem? (i := 1653) (by decide +kernel)⟩
theorem lw_p58 : lw_okq (⟨"LuckLinksModel", "is", "(J)Z"⟩, 75) := ⟨⟨by decide +kernel, by decide +kernel⟩, List.mem_of_getElem? (i := 1313) (by decide +kernel), List.mem_of_getElem? (i := 1657) (by decide +kernel), List.mem_of_getElem? (i := 1658) (by decide +kernel)⟩
theorem lw_p59 : lw_okq (⟨"LuckLinksModel", "numeral", "(II)I"⟩, 75) := ⟨⟨by decide +kernel, by decide +kernel⟩, List.mem_of_getElem? (i := 1313) (by decide +kernel), List.mem_of_getElem? (i := 1664) (by decide +kernel), List.mem_of_getElem? (i := 1665) (by decide +kernel)⟩
theorem lw_p60 : lw_okq (⟨"LuckLinksModel", "readHour", "()V"⟩, 75) := ⟨⟨by decide +kernel, by decide +kernel⟩, List.mem_of_getElem? (i := 1313) (by decide +kernel), List.mem_of_getElem? (i := 1668) (by decide +kernel), List.mem_of_getElem? (i := 1669) (by decide +kernel)⟩
theorem lw_p61 : lw_okq (⟨"LuckLinksModel", "readPress", "()V"⟩, 75) := ⟨⟨by decide +kernel, by decide +kernel⟩, List.mem_of_getElem? (i := 1313) (by decide +kernel), List.mem_of_getElem? (i := 1673) (by decide +kernel), List.mem_of_getElem? (i := 1674) (by decide +kernel)⟩
theorem lw_p62 : lw_okq (⟨"LuckLinksModel", "readCondition", "()V"⟩, 75) := ⟨⟨by decide +kernel, by decide +kernel⟩, List.mem_of_getElem? (i := 1313) (by decide +kernel), List.mem_of_getElem? (i := 1680) (by decide +kernel), List.mem_of_getElem? (i := 1681) (by decide +kernel)⟩
theorem lw_p63 : lw_okq (⟨"LuckLinksModel", "readTest", "()V"⟩, 75) := ⟨⟨by decide +kernel, by decide +kernel⟩, List.mem_of_getElem? (i := 1313) (by decide +kernel), List.mem_of_getElem? (i := 1685) (by decide +kernel), List.mem_of_getElem? (i := 1686) (by decide +kernel)⟩
def lw_privs_4 : List (MethodName × Nat) := [(⟨"LuckLinksModel", "isNot", "()Z"⟩, 75), (⟨"LuckLinksModel", "isPlayer", "(I)Z"⟩, 75), (⟨"LuckLinksModel", "adds", "(II)V"⟩, 75), (⟨"LuckLinksModel", "clears", "()V"⟩, 75), (⟨"LuckLinksModel", "next", "()V"⟩, 75), (⟨"LuckLinksModel", "here", "()I"⟩, 75), (⟨"LuckLinksModel", "readRule", "()V"⟩, 75), (⟨"LuckLinksModel", "ruleHere", "()I"⟩, 75), (⟨"LuckLinksModel", "errs", "()V"⟩, 75), (⟨"LuckLinksModel", "partHere", "()I"⟩, 75), (⟨"LuckLinksModel", "is", "(J)Z"⟩, 75), (⟨"LuckLinksModel", "numeral", "(II)I"⟩, 75), (⟨"LuckLinksModel", "readHour", "()V"⟩, 75), (⟨"LuckLinksModel", "readPress", "()V"⟩, 75), (⟨"LuckLinksModel", "readCondition", "()V"⟩, 75), (⟨"LuckLinksModel", "readTest", "()V"⟩, 75)]
theorem lw_r4 : ∀ q ∈ lw_privs_4, lw_okq q := List.forall_mem_cons.mpr ⟨lw_p48, List.forall_mem_cons.mpr ⟨lw_p49, List.forall_mem_cons.mpr ⟨lw_p50, List.forall_mem_cons.mpr ⟨lw_p51, List.forall_mem_cons.mpr ⟨lw_p52, List.forall_mem_cons.mpr ⟨lw_p53, List.forall_mem_cons.mpr ⟨lw_p54, List.forall_mem_cons.mpr ⟨lw_p55, List.forall_mem_cons.mpr ⟨lw_p56, List.forall_mem_cons.mpr ⟨lw_p57, List.forall_mem_cons.mpr ⟨lw_p58, List.forall_mem_cons.mpr ⟨lw_p59, List.forall_mem_cons.mpr ⟨lw_p60, List.forall_mem_cons.mpr ⟨lw_p61, List.forall_mem_cons.mpr ⟨lw_p62, List.forall_mem_cons.mpr ⟨lw_p63, fun _ h => absurd h List.not_mem_nil⟩⟩⟩⟩⟩⟩⟩⟩⟩⟩⟩⟩⟩⟩⟩⟩
theorem lw_p64 : lw_okq (⟨"LuckLinksModel", "wordHere", "()I"⟩, 75) := ⟨⟨by decide +kernel, by decide +kernel⟩, List.mem_of_getElem? (i := 1313) (by decide +kernel), List.mem_of_getElem? (i := 1689) (by decide +kernel), List.mem_of_getElem? (i := 1690) (by decide +kernel)⟩
theorem lw_p65 : lw_okq (⟨"LuckLinksModel", "step", "(IIII)V"⟩, 75) := ⟨⟨by decide +kernel, by decide +kernel⟩, List.mem_of_getElem? (i := 1313) (by decide +kernel), List.mem_of_getElem? (i := 1698) (by decide +kernel), List.mem_of_getElem? (i := 1699) (by decide +kernel)⟩
theorem lw_p66 : lw_okq (⟨"LuckLinksModel", "closes", "()Z"⟩, 75) := ⟨⟨by decide +kernel, by decide +kernel⟩, List.mem_of_getElem? (i := 1313) (by decide +kernel), List.mem_of_getElem? (i := 1702) (by decide +kernel), List.mem_of_getElem? (i := 1703) (by decide +kernel)⟩
theorem lw_p67 : lw_okq (⟨"LuckLinksModel", "takes", "()V"⟩, 75) := ⟨⟨by decide +kernel, by decide +kernel⟩, List.mem_of_getElem? (i := 1313) (by decide +kernel), List.mem_of_getElem? (i := 1708) (by decide +kernel), List.mem_of_getElem? (i := 1709) (by decide +kernel)⟩
theorem lw_p68 : lw_okq (⟨"LuckLinksModel", "weightOf", "(I)I"⟩, 75) := ⟨⟨by decide +kernel, by decide +kernel⟩, List.mem_of_getElem? (i := 1313) (by decide +kernel), List.mem_of_getElem? (i := 1720) (by decide +kernel), List.mem_of_getElem? (i := 1721) (by decide +kernel)⟩
theorem lw_p69 : lw_okq (⟨"LuckLinksModel", "draw", "(I)I"⟩, 75) := ⟨⟨by decide +kernel, by decide +kernel⟩, List.mem_of_getElem? (i := 1313) (by decide +kernel), List.mem_of_getElem? (i := 1731) (by decide +kernel), List.mem_of_getElem? (i := 1732) (by decide +kernel)⟩
theorem lw_p70 : lw_okq (⟨"LuckLinksModel", "drawDay", "(II)V"⟩, 75) := ⟨⟨by decide +kernel, by decide +kernel⟩, List.mem_of_getElem? (i := 1313) (by decide +kernel), List.mem_of_getElem? (i := 1740) (by decide +kernel), List.mem_of_getElem? (i := 1741) (by decide +kernel)⟩
theorem lw_p71 : lw_okq (⟨"LuckLinksModel", "putInOrder", "()V"⟩, 75) := ⟨⟨by decide +kernel, by decide +kernel⟩, List.mem_of_getElem? (i := 1313) (by decide +kernel), List.mem_of_getElem? (i := 1744) (by decide +kernel), List.mem_of_getElem? (i := 1745) (by decide +kernel)⟩
theorem lw_p72 : lw_okq (⟨"LuckLinksModel", "leastSum", "()I"⟩, 75) := ⟨⟨by decide +kernel, by decide +kernel⟩, List.mem_of_getElem? (i := 1313) (by decide +kernel), List.mem_of_getElem? (i := 1748) (by decide +kernel), List.mem_of_getElem? (i := 1749) (by decide +kernel)⟩
theorem lw_p73 : lw_okq (⟨"LuckLinksModel", "strokeOf", "(IIII)I"⟩, 75) := ⟨⟨by decide +kernel, by decide +kernel⟩, List.mem_of_getElem? (i := 1313) (by decide +kernel), List.mem_of_getElem? (i := 1752) (by decide +kernel), List.mem_of_getElem? (i := 1753) (by decide +kernel)⟩
theorem lw_p74 : lw_okq (⟨"LuckLinksModel", "holds", "(I)Z"⟩, 75) := ⟨⟨by decide +kernel, by decide +kernel⟩, List.mem_of_getElem? (i := 1313) (by decide +kernel), List.mem_of_getElem? (i := 1756) (by decide +kernel), List.mem_of_getElem? (i := 1757) (by decide +kernel)⟩
theorem lw_p75 : lw_okq (⟨"LuckLinksModel", "valueAt", "(II)I"⟩, 75) := ⟨⟨by decide +kernel, by decide +kernel⟩, List.mem_of_getElem? (i := 1313) (by decide +kernel), List.mem_of_getElem? (i := 1760) (by decide +kernel), List.mem_of_getElem? (i := 1761) (by decide +kernel)⟩
theorem lw_p76 : lw_okq (⟨"LuckLinksModel", "lineAt", "(I)I"⟩, 75) := ⟨⟨by decide +kernel, by decide +kernel⟩, List.mem_of_getElem? (i := 1313) (by decide +kernel), List.mem_of_getElem? (i := 1764) (by decide +kernel), List.mem_of_getElem? (i := 1765) (by decide +kernel)⟩
theorem lw_p77 : lw_okq (⟨"LuckLinksModel", "placeOf", "(II)I"⟩, 75) := ⟨⟨by decide +kernel, by decide +kernel⟩, List.mem_of_getElem? (i := 1313) (by decide +kernel), List.mem_of_getElem? (i := 1783) (by decide +kernel), List.mem_of_getElem? (i := 1784) (by decide +kernel)⟩
theorem lw_p78 : lw_okq (⟨"LuckLinksModel", "wholeSum", "(II)I"⟩, 75) := ⟨⟨by decide +kernel, by decide +kernel⟩, List.mem_of_getElem? (i := 1313) (by decide +kernel), List.mem_of_getElem? (i := 1787) (by decide +kernel), List.mem_of_getElem? (i := 1788) (by decide +kernel)⟩
theorem lw_p79 : lw_okq (⟨"LuckLinksModel", "countDay", "(III)V"⟩, 75) := ⟨⟨by decide +kernel, by decide +kernel⟩, List.mem_of_getElem? (i := 1313) (by decide +kernel), List.mem_of_getElem? (i := 1791) (by decide +kernel), List.mem_of_getElem? (i := 1792) (by decide +kernel)⟩
def lw_privs_5 : List (MethodName × Nat) := [(⟨"LuckLinksModel", "wordHere", "()I"⟩, 75), (⟨"LuckLinksModel", "step", "(IIII)V"⟩, 75), (⟨"LuckLinksModel", "closes", "()Z"⟩, 75), (⟨"LuckLinksModel", "takes", "()V"⟩, 75), (⟨"LuckLinksModel", "weightOf", "(I)I"⟩, 75), (⟨"LuckLinksModel", "draw", "(I)I"⟩, 75), (⟨"LuckLinksModel", "drawDay", "(II)V"⟩, 75), (⟨"LuckLinksModel", "putInOrder", "()V"⟩, 75), (⟨"LuckLinksModel", "leastSum", "()I"⟩, 75), (⟨"LuckLinksModel", "strokeOf", "(IIII)I"⟩, 75), (⟨"LuckLinksModel", "holds", "(I)Z"⟩, 75), (⟨"LuckLinksModel", "valueAt", "(II)I"⟩, 75), (⟨"LuckLinksModel", "lineAt", "(I)I"⟩, 75), (⟨"LuckLinksModel", "placeOf", "(II)I"⟩, 75), (⟨"LuckLinksModel", "wholeSum", "(II)I"⟩, 75), (⟨"LuckLinksModel", "countDay", "(III)V"⟩, 75)]
theorem lw_r5 : ∀ q ∈ lw_privs_5, lw_okq q := List.forall_mem_cons.mpr ⟨lw_p64, List.forall_mem_cons.mpr ⟨lw_p65, List.forall_mem_cons.mpr ⟨lw_p66, List.forall_mem_cons.mpr ⟨lw_p67, List.forall_mem_cons.mpr ⟨lw_p68, List.forall_mem_cons.mpr ⟨lw_p69, List.forall_mem_cons.mpr ⟨lw_p70, List.forall_mem_cons.mpr ⟨lw_p71, List.forall_mem_cons.mpr ⟨lw_p72, List.forall_mem_cons.mpr ⟨lw_p73, List.forall_mem_cons.mpr ⟨lw_p74, List.forall_mem_cons.mpr ⟨lw_p75, List.forall_mem_cons.mpr ⟨lw_p76, List.forall_mem_cons.mpr ⟨lw_p77, List.forall_mem_cons.mpr ⟨lw_p78, List.forall_mem_cons.mpr ⟨lw_p79, fun _ h => absurd h List.not_mem_nil⟩⟩⟩⟩⟩⟩⟩⟩⟩⟩⟩⟩⟩⟩⟩⟩
theorem lw_p80 : lw_okq (⟨"LuckLinksModel", "wonIn", "(IIZ)I"⟩, 75) := ⟨⟨by decide +kernel, by decide +kernel⟩, List.mem_of_getElem? (i := 1313) (by decide +kernel), List.mem_of_getElem? (i := 1802) (by decide +kernel), List.mem_of_getElem? (i := 1803) (by decide +kernel)⟩
theorem lw_p81 : lw_okq (⟨"LuckLinksModel", "sumTo", "(III)I"⟩, 75) := ⟨⟨by decide +kernel, by decide +kernel⟩, List.mem_of_getElem? (i := 1313) (by decide +kernel), List.mem_of_getElem? (i := 1810) (by decide +kernel), List.mem_of_getElem? (i := 1811) (by decide +kernel)⟩
theorem lw_p82 : lw_okq (⟨"LuckLinksModel", "leadsIn", "(III)V"⟩, 75) := ⟨⟨by decide +kernel, by decide +kernel⟩, List.mem_of_getElem? (i := 1313) (by decide +kernel), List.mem_of_getElem? (i := 1832) (by decide +kernel), List.mem_of_getElem? (i := 1833) (by decide +kernel)⟩
theorem lw_p83 : lw_okq (⟨"LuckLinksModel", "findSkill", "(IIII)V"⟩, 75) := ⟨⟨by decide +kernel, by decide +kernel⟩, List.mem_of_getElem? (i := 1313) (by decide +kernel), List.mem_of_getElem? (i := 1844) (by decide +kernel), List.mem_of_getElem? (i := 1845) (by decide +kernel)⟩
theorem lw_p84 : lw_okq (⟨"LuckLinksModel", "offOf", "(IIII)J"⟩, 75) := ⟨⟨by decide +kernel, by decide +kernel⟩, List.mem_of_getElem? (i := 1313) (by decide +kernel), List.mem_of_getElem? (i := 1848) (by decide +kernel), List.mem_of_getElem? (i := 1849) (by decide +kernel)⟩
theorem lw_p85 : lw_okq (⟨"LuckLinksModel", "played", "(II)Z"⟩, 75) := ⟨⟨by decide +kernel, by decide +kernel⟩, List.mem_of_getElem? (i := 1313) (by decide +kernel), List.mem_of_getElem? (i := 1858) (by decide +kernel), List.mem_of_getElem? (i := 1859) (by decide +kernel)⟩
theorem lw_p86 : lw_okq (⟨"LuckLinksModel", "bestOf", "(I)I"⟩, 75) := ⟨⟨by decide +kernel, by decide +kernel⟩, List.mem_of_getElem? (i := 1313) (by decide +kernel), List.mem_of_getElem? (i := 1867) (by decide +kernel), List.mem_of_getElem? (i := 1868) (by decide +kernel)⟩
theorem lw_p87 : lw_okq (⟨"LuckLinksModel", "findLot", "()V"⟩, 75) := ⟨⟨by decide +kernel, by decide +kernel⟩, List.mem_of_getElem? (i := 1313) (by decide +kernel), List.mem_of_getElem? (i := 1879) (by decide +kernel), List.mem_of_getElem? (i := 1880) (by decide +kernel)⟩
theorem lw_p88 : lw_okq (⟨"LuckLinksModel", "skillBy", "(I)I"⟩, 75) := ⟨⟨by decide +kernel, by decide +kernel⟩, List.mem_of_getElem? (i := 1313) (by decide +kernel), List.mem_of_getElem? (i := 1884) (by decide +kernel), List.mem_of_getElem? (i := 1885) (by decide +kernel)⟩
theorem lw_p89 : lw_okq (⟨"LuckLinksModel", "findOnce", "()V"⟩, 75) := ⟨⟨by decide +kernel, by decide +kernel⟩, List.mem_of_getElem? (i := 1313) (by decide +kernel), List.mem_of_getElem? (i := 1892) (by decide +kernel), List.mem_of_getElem? (i := 1893) (by decide +kernel)⟩
theorem lw_p90 : lw_okq (⟨"LuckLinksModel", "lastsBy", "(IIIII)I"⟩, 75) := ⟨⟨by decide +kernel, by decide +kernel⟩, List.mem_of_getElem? (i := 1313) (by decide +kernel), List.mem_of_getElem? (i := 1904) (by decide +kernel), List.mem_of_getElem? (i := 1905) (by decide +kernel)⟩
theorem lw_p91 : lw_okq (⟨"LuckLinksModel", "findHalves", "(IIII)V"⟩, 75) := ⟨⟨by decide +kernel, by decide +kernel⟩, List.mem_of_getElem? (i := 1313) (by decide +kernel), List.mem_of_getElem? (i := 1908) (by decide +kernel), List.mem_of_getElem? (i := 1909) (by decide +kernel)⟩
theorem lw_p92 : lw_okq (⟨"LuckLinksModel", "orderOf", "(II)I"⟩, 75) := ⟨⟨by decide +kernel, by decide +kernel⟩, List.mem_of_getElem? (i := 1313) (by decide +kernel), List.mem_of_getElem? (i := 1912) (by decide +kernel), List.mem_of_getElem? (i := 1913) (by decide +kernel)⟩
theorem lw_p93 : lw_okq (⟨"LuckLinksModel", "findPoints", "(III)V"⟩, 75) := ⟨⟨by decide +kernel, by decide +kernel⟩, List.mem_of_getElem? (i := 1313) (by decide +kernel), List.mem_of_getElem? (i := 1929) (by decide +kernel), List.mem_of_getElem? (i := 1930) (by decide +kernel)⟩
theorem lw_p94 : lw_okq (⟨"LuckLinksModel", "rankOf", "(I)I"⟩, 75) := ⟨⟨by decide +kernel, by decide +kernel⟩, List.mem_of_getElem? (i := 1313) (by decide +kernel), List.mem_of_getElem? (i := 1933) (by decide +kernel), List.mem_of_getElem? (i := 1934) (by decide +kernel)⟩
theorem lw_p95 : lw_okq (⟨"LuckLinksModel", "firstOnes", "(I)I"⟩, 75) := ⟨⟨by decide +kernel, by decide +kernel⟩, List.mem_of_getElem? (i := 1313) (by decide +kernel), List.mem_of_getElem? (i := 1941) (by decide +kernel), List.mem_of_getElem? (i := 1942) (by decide +kernel)⟩
def lw_privs_6 : List (MethodName × Nat) := [(⟨"LuckLinksModel", "wonIn", "(IIZ)I"⟩, 75), (⟨"LuckLinksModel", "sumTo", "(III)I"⟩, 75), (⟨"LuckLinksModel", "leadsIn", "(III)V"⟩, 75), (⟨"LuckLinksModel", "findSkill", "(IIII)V"⟩, 75), (⟨"LuckLinksModel", "offOf", "(IIII)J"⟩, 75), (⟨"LuckLinksModel", "played", "(II)Z"⟩, 75), (⟨"LuckLinksModel", "bestOf", "(I)I"⟩, 75), (⟨"LuckLinksModel", "findLot", "()V"⟩, 75), (⟨"LuckLinksModel", "skillBy", "(I)I"⟩, 75), (⟨"LuckLinksModel", "findOnce", "()V"⟩, 75), (⟨"LuckLinksModel", "lastsBy", "(IIIII)I"⟩, 75), (⟨"LuckLinksModel", "findHalves", "(IIII)V"⟩, 75), (⟨"LuckLinksModel", "orderOf", "(II)I"⟩, 75), (⟨"LuckLinksModel", "findPoints", "(III)V"⟩, 75), (⟨"LuckLinksModel", "rankOf", "(I)I"⟩, 75), (⟨"LuckLinksModel", "firstOnes", "(I)I"⟩, 75)]
theorem lw_r6 : ∀ q ∈ lw_privs_6, lw_okq q := List.forall_mem_cons.mpr ⟨lw_p80, List.forall_mem_cons.mpr ⟨lw_p81, List.forall_mem_cons.mpr ⟨lw_p82, List.forall_mem_cons.mpr ⟨lw_p83, List.forall_mem_cons.mpr ⟨lw_p84, List.forall_mem_cons.mpr ⟨lw_p85, List.forall_mem_cons.mpr ⟨lw_p86, List.forall_mem_cons.mpr ⟨lw_p87, List.forall_mem_cons.mpr ⟨lw_p88, List.forall_mem_cons.mpr ⟨lw_p89, List.forall_mem_cons.mpr ⟨lw_p90, List.forall_mem_cons.mpr ⟨lw_p91, List.forall_mem_cons.mpr ⟨lw_p92, List.forall_mem_cons.mpr ⟨lw_p93, List.forall_mem_cons.mpr ⟨lw_p94, List.forall_mem_cons.mpr ⟨lw_p95, fun _ h => absurd h List.not_mem_nil⟩⟩⟩⟩⟩⟩⟩⟩⟩⟩⟩⟩⟩⟩⟩⟩
theorem lw_p96 : lw_okq (⟨"LuckLinksModel", "lastOff", "(II)I"⟩, 75) := ⟨⟨by decide +kernel, by decide +kernel⟩, List.mem_of_getElem? (i := 1313) (by decide +kernel), List.mem_of_getElem? (i := 1952) (by decide +kernel), List.mem_of_getElem? (i := 1953) (by decide +kernel)⟩
theorem lw_p97 : lw_okq (⟨"LuckLinksModel", "findWorth", "(III)V"⟩, 75) := ⟨⟨by decide +kernel, by decide +kernel⟩, List.mem_of_getElem? (i := 1313) (by decide +kernel), List.mem_of_getElem? (i := 1964) (by decide +kernel), List.mem_of_getElem? (i := 1965) (by decide +kernel)⟩
theorem lw_p98 : lw_okq (⟨"LuckLinksModel", "findPressed", "(I)V"⟩, 75) := ⟨⟨by decide +kernel, by decide +kernel⟩, List.mem_of_getElem? (i := 1313) (by decide +kernel), List.mem_of_getElem? (i := 1976) (by decide +kernel), List.mem_of_getElem? (i := 1977) (by decide +kernel)⟩
def lw_privs_7 : List (MethodName × Nat) := [(⟨"LuckLinksModel", "lastOff", "(II)I"⟩, 75), (⟨"LuckLinksModel", "findWorth", "(III)V"⟩, 75), (⟨"LuckLinksModel", "findPressed", "(I)V"⟩, 75)]
theorem lw_r7 : ∀ q ∈ lw_privs_7, lw_okq q := List.forall_mem_cons.mpr ⟨lw_p96, List.forall_mem_cons.mpr ⟨lw_p97, List.forall_mem_cons.mpr ⟨lw_p98, fun _ h => absurd h List.not_mem_nil⟩⟩⟩
def lw_privs : List (MethodName × Nat) := lw_privs_1 ++ (lw_privs_2 ++ (lw_privs_3 ++ (lw_privs_4 ++ (lw_privs_5 ++ (lw_privs_6 ++ (lw_privs_7))))))
def lw_tbl : List Cond := k2_sels lw_privs ++ tables_1
theorem lw_privs_ok : ∀ q ∈ lw_privs, lw_okq q := by
  show ∀ q ∈ lw_privs_1 ++ (lw_privs_2 ++ (lw_privs_3 ++ (lw_privs_4 ++ (lw_privs_5 ++ (lw_privs_6 ++ (lw_privs_7)))))), lw_okq q
  exact List.forall_mem_append.mpr ⟨lw_r1, List.forall_mem_append.mpr ⟨lw_r2, List.forall_mem_append.mpr ⟨lw_r3, List.forall_mem_append.mpr ⟨lw_r4, List.forall_mem_append.mpr ⟨lw_r5, List.forall_mem_append.mpr ⟨lw_r6, lw_r7⟩⟩⟩⟩⟩⟩
-- ===== end of PART A; then your names; then what follows =====
/-! ===== BEGIN words of one list among another's, by their places ===== -/
theorem goodIn_r {big : List Cond} (ws : List Cond) (ps : List Nat) (hp : ws = ps.filterMap (fun i => big[i]?)) (h : ws.all goodWord = true) : GoodIn big ws := by
  intro w hw
  have h1 := List.all_eq_true.mp h w hw
  rw [hp] at hw
  obtain ⟨i, -, hi⟩ := List.mem_filterMap.mp hw
  have hm : w ∈ big := by first | exact List.mem_of_getElem? hi | exact List.getElem?_mem hi
  exact ⟨hm, good_of_word h1⟩
theorem goodIn_app {big a b : List Cond} (ha : GoodIn big a) (hb : GoodIn big b) : GoodIn big (a ++ b) := fun w h => (List.mem_append.mp h).elim (ha w) (hb w)
theorem goodIn_ca {big a b : List Cond} {c : Cond} (ha : GoodIn big (c :: a)) (hb : GoodIn big b) : GoodIn big (c :: (a ++ b)) := fun w h => (List.mem_cons.mp h).elim (fun e => ha w (List.mem_cons.mpr (Or.inl e))) (fun h => (List.mem_append.mp h).elim (fun h => ha w (List.mem_cons.mpr (Or.inr h))) (hb w))
theorem goodIn_sub {big ws : List Cond} (hm : ∀ w ∈ ws, w ∈ big) (h : ws.all goodWord = true) : GoodIn big ws := fun w hw => ⟨hm w hw, good_of_word (List.all_eq_true.mp h w hw)⟩
/-! ===== END ===== -/

/-! ===== BEGIN printed: names, fields, word lists, decode rows ===== -/
def RX0 : String := "LuckLinks$Chances"
def TX0 : u_T := fun k => match k with
  | 0 => ("LuckLinks$Chances", "lot", "[J", true)
  | 1 => ("LuckLinks$Chances", "waysSoFar", "[J", true)
  | 2 => ("LuckLinks$Chances", "lotFrom", "[J", true)
  | 3 => ("LuckLinks$Chances", "step", "[J", true)
  | 4 => ("LuckLinks$Chances", "gap", "[J", true)
  | 5 => ("LuckLinks$Chances", "nextGap", "[J", true)
  | 6 => ("LuckLinks$Chances", "greatestStep", "J", false)
  | 7 => ("LuckLinks$Chances", "reach", "I", false)
  | _ => ("LuckLinks$Chances", "strokes", "[I", true)
def tyX0 : Nat → FieldType := fun k => match k with
  | 0 => .array .long
  | 1 => .array .long
  | 2 => .array .long
  | 3 => .array .long
  | 4 => .array .long
  | 5 => .array .long
  | 6 => .long
  | 7 => .int
  | _ => .array .int
abbrev wsX00 : List Cond := u_ws RX0 TX0 9
theorem nmX0 : ∀ a, a < 9 → ∀ b, b < 9 → a ≠ b → (TX0 a).2.1 ≠ (TX0 b).2.1 := by decide +kernel
theorem tyX0_ok : ∀ k, k < 9 → parseFieldDescriptor (TX0 k).2.2.1 = some (tyX0 k) := by decide +kernel
abbrev cX0_init : ByteArray := prog_2_method_1_code
def yX0_init : MethodName := ⟨RX0, "<init>", "()V"⟩
abbrev cX0_setStrokes : ByteArray := prog_2_method_2_code
def yX0_setStrokes : MethodName := ⟨RX0, "setStrokes", "(II)V"⟩
abbrev cX0_fillLot : ByteArray := prog_2_method_3_code
def yX0_fillLot : MethodName := ⟨RX0, "fillLot", "(LLuckLinks$Law;)V"⟩
abbrev cX0_addDraw : ByteArray := prog_2_method_4_code
def yX0_addDraw : MethodName := ⟨RX0, "addDraw", "(I)V"⟩
abbrev cX0_winning : ByteArray := prog_2_method_5_code
def yX0_winning : MethodName := ⟨RX0, "winning", "(IILLuckLinks$Law;)I"⟩
abbrev cX0_lotAbove : ByteArray := prog_2_method_6_code
def yX0_lotAbove : MethodName := ⟨RX0, "lotAbove", "(I)J"⟩
abbrev cX0_roundsNeeded : ByteArray := prog_2_method_7_code
def yX0_roundsNeeded : MethodName := ⟨RX0, "roundsNeeded", "(IILLuckLinks$Law;)I"⟩
abbrev cX0_fillStep : ByteArray := prog_2_method_8_code
def yX0_fillStep : MethodName := ⟨RX0, "fillStep", "()V"⟩
abbrev cX0_gapsAbove : ByteArray := prog_2_method_9_code
def yX0_gapsAbove : MethodName := ⟨RX0, "gapsAbove", "(II)J"⟩
abbrev cX0_addStep : ByteArray := prog_2_method_10_code
def yX0_addStep : MethodName := ⟨RX0, "addStep", "(I)V"⟩
def RX1 : String := "LuckLinks$Form"
def TX1 : u_T := fun k => match k with
  | 0 => ("LuckLinks$Form", "world", "LLuckLinks$World;", true)
  | 1 => ("LuckLinks$Form", "offs", "[J", true)
  | 2 => ("LuckLinks$Form", "many", "[I", true)
  | 3 => ("LuckLinks$Form", "upper", "J", false)
  | _ => ("LuckLinks$Form", "lower", "J", false)
def tyX1 : Nat → FieldType := fun k => match k with
  | 0 => .object "LuckLinks$World"
  | 1 => .array .long
  | 2 => .array .int
  | 3 => .long
  | _ => .long
abbrev wsX10 : List Cond := u_ws RX1 TX1 5
theorem nmX1 : ∀ a, a < 5 → ∀ b, b < 5 → a ≠ b → (TX1 a).2.1 ≠ (TX1 b).2.1 := by decide +kernel
theorem tyX1_ok : ∀ k, k < 5 → parseFieldDescriptor (TX1 k).2.2.1 = some (tyX1 k) := by decide +kernel
abbrev cX1_init : ByteArray := prog_3_method_1_code
def yX1_init : MethodName := ⟨RX1, "<init>", "(LLuckLinks$World;)V"⟩
abbrev cX1_gather : ByteArray := prog_3_method_2_code
def yX1_gather : MethodName := ⟨RX1, "gather", "(II)V"⟩
abbrev cX1_gatherAll : ByteArray := prog_3_method_3_code
def yX1_gatherAll : MethodName := ⟨RX1, "gatherAll", "()V"⟩
abbrev cX1_isRow : ByteArray := prog_3_method_4_code
def yX1_isRow : MethodName := ⟨RX1, "isRow", "(II)Z"⟩
abbrev cX1_roundsIn : ByteArray := prog_3_method_5_code
def yX1_roundsIn : MethodName := ⟨RX1, "roundsIn", "(II)I"⟩
abbrev cX1_offsIn : ByteArray := prog_3_method_6_code
def yX1_offsIn : MethodName := ⟨RX1, "offsIn", "(II)J"⟩
abbrev cX1_weigh : ByteArray := prog_3_method_7_code
def yX1_weigh : MethodName := ⟨RX1, "weigh", "(IILLuckLinks$Law;)V"⟩
abbrev cX1_giveSkill : ByteArray := prog_3_method_8_code
def yX1_giveSkill : MethodName := ⟨RX1, "giveSkill", "(LLuckLinks$Ratio;)V"⟩
abbrev cX1_spanOf : ByteArray := prog_3_method_9_code
def yX1_spanOf : MethodName := ⟨RX1, "spanOf", "(IIILLuckLinks$Law;)I"⟩
abbrev cX1_bestAhead : ByteArray := prog_3_method_10_code
def yX1_bestAhead : MethodName := ⟨RX1, "bestAhead", "(ILLuckLinks$Law;)I"⟩
abbrev cX1_longestBest : ByteArray := prog_3_method_11_code
def yX1_longestBest : MethodName := ⟨RX1, "longestBest", "(ILLuckLinks$Law;)I"⟩
abbrev cX1_wholeSkill : ByteArray := prog_3_method_12_code
def yX1_wholeSkill : MethodName := ⟨RX1, "wholeSkill", "(IILLuckLinks$Law;)I"⟩
abbrev cX1_missed : ByteArray := prog_3_method_13_code
def yX1_missed : MethodName := ⟨RX1, "missed", "(IILLuckLinks$Law;)I"⟩
abbrev cX1_foretold : ByteArray := prog_3_method_14_code
def yX1_foretold : MethodName := ⟨RX1, "foretold", "(IIILLuckLinks$Law;)I"⟩
abbrev cX1_latest : ByteArray := prog_3_method_15_code
def yX1_latest : MethodName := ⟨RX1, "latest", "(II)I"⟩
abbrev cX1_hundredths : ByteArray := prog_3_method_16_code
def yX1_hundredths : MethodName := ⟨RX1, "hundredths", "(JJ)I"⟩
def RX2 : String := "LuckLinks$Halves"
def TX2 : u_T := fun k => match k with
  | 0 => ("LuckLinks$Halves", "world", "LLuckLinks$World;", true)
  | 1 => ("LuckLinks$Halves", "firstOffs", "[J", true)
  | 2 => ("LuckLinks$Halves", "firstRounds", "[J", true)
  | 3 => ("LuckLinks$Halves", "laterOffs", "[J", true)
  | 4 => ("LuckLinks$Halves", "laterRounds", "[J", true)
  | 5 => ("LuckLinks$Halves", "alike", "I", false)
  | 6 => ("LuckLinks$Halves", "unlike", "I", false)
  | _ => ("LuckLinks$Halves", "inBoth", "I", false)
def tyX2 : Nat → FieldType := fun k => match k with
  | 0 => .object "LuckLinks$World"
  | 1 => .array .long
  | 2 => .array .long
  | 3 => .array .long
  | 4 => .array .long
  | 5 => .int
  | 6 => .int
  | _ => .int
abbrev wsX20 : List Cond := u_ws RX2 TX2 8
theorem nmX2 : ∀ a, a < 8 → ∀ b, b < 8 → a ≠ b → (TX2 a).2.1 ≠ (TX2 b).2.1 := by decide +kernel
theorem tyX2_ok : ∀ k, k < 8 → parseFieldDescriptor (TX2 k).2.2.1 = some (tyX2 k) := by decide +kernel
abbrev cX2_init : ByteArray := prog_4_method_1_code
def yX2_init : MethodName := ⟨RX2, "<init>", "(LLuckLinks$World;)V"⟩
abbrev cX2_compareHalves : ByteArray := prog_4_method_2_code
def yX2_compareHalves : MethodName := ⟨RX2, "compareHalves", "(IIII)V"⟩
abbrev cX2_gatherHalf : ByteArray := prog_4_method_3_code
def yX2_gatherHalf : MethodName := ⟨RX2, "gatherHalf", "(III[J[J)V"⟩
abbrev cX2_isInBoth : ByteArray := prog_4_method_4_code
def yX2_isInBoth : MethodName := ⟨RX2, "isInBoth", "(I)Z"⟩
abbrev cX2_compareWithThoseAhead : ByteArray := prog_4_method_5_code
def yX2_compareWithThoseAhead : MethodName := ⟨RX2, "compareWithThoseAhead", "(I)V"⟩
abbrev cX2_compareMeans : ByteArray := prog_4_method_6_code
def yX2_compareMeans : MethodName := ⟨RX2, "compareMeans", "([J[JII)I"⟩
abbrev cX2_lastingPart : ByteArray := prog_4_method_7_code
def yX2_lastingPart : MethodName := ⟨RX2, "lastingPart", "(III)I"⟩
def RX3 : String := "LuckLinks$Law"
def TX3 : u_T := fun k => match k with
  | 0 => ("LuckLinks$Law", "rules", "I", false)
  | 1 => ("LuckLinks$Law", "drifts", "[I", true)
  | 2 => ("LuckLinks$Law", "lucks", "[I", true)
  | 3 => ("LuckLinks$Law", "keeps", "[I", true)
  | 4 => ("LuckLinks$Law", "prizes", "[I", true)
  | 5 => ("LuckLinks$Law", "points", "[I", true)
  | 6 => ("LuckLinks$Law", "weights", "[I", true)
  | 7 => ("LuckLinks$Law", "weightsByAge", "[I", true)
  | 8 => ("LuckLinks$Law", "hourRules", "I", false)
  | 9 => ("LuckLinks$Law", "hourParts", "[I", true)
  | 10 => ("LuckLinks$Law", "hourStrokes", "[I", true)
  | 11 => ("LuckLinks$Law", "hourFroms", "[I", true)
  | 12 => ("LuckLinks$Law", "pressRules", "I", false)
  | 13 => ("LuckLinks$Law", "pressParts", "[I", true)
  | 14 => ("LuckLinks$Law", "pressStrokes", "[I", true)
  | 15 => ("LuckLinks$Law", "pressEnds", "[I", true)
  | 16 => ("LuckLinks$Law", "code", "[I", true)
  | 17 => ("LuckLinks$Law", "codeLength", "I", false)
  | _ => ("LuckLinks$Law", "stack", "[Z", true)
def tyX3 : Nat → FieldType := fun k => match k with
  | 0 => .int
  | 1 => .array .int
  | 2 => .array .int
  | 3 => .array .int
  | 4 => .array .int
  | 5 => .array .int
  | 6 => .array .int
  | 7 => .array .int
  | 8 => .int
  | 9 => .array .int
  | 10 => .array .int
  | 11 => .array .int
  | 12 => .int
  | 13 => .array .int
  | 14 => .array .int
  | 15 => .array .int
  | 16 => .array .int
  | 17 => .int
  | _ => .array .boolean
abbrev wsX30 : List Cond := u_ws RX3 TX3 19
theorem nmX3 : ∀ a, a < 19 → ∀ b, b < 19 → a ≠ b → (TX3 a).2.1 ≠ (TX3 b).2.1 := by decide +kernel
theorem tyX3_ok : ∀ k, k < 19 → parseFieldDescriptor (TX3 k).2.2.1 = some (tyX3 k) := by decide +kernel
abbrev cX3_init : ByteArray := prog_5_method_1_code
def yX3_init : MethodName := ⟨RX3, "<init>", "()V"⟩
abbrev cX3_clear : ByteArray := prog_5_method_2_code
def yX3_clear : MethodName := ⟨RX3, "clear", "()V"⟩
abbrev cX3_addHour : ByteArray := prog_5_method_3_code
def yX3_addHour : MethodName := ⟨RX3, "addHour", "(III)V"⟩
abbrev cX3_addPress : ByteArray := prog_5_method_4_code
def yX3_addPress : MethodName := ⟨RX3, "addPress", "(II)V"⟩
abbrev cX3_emit : ByteArray := prog_5_method_5_code
def yX3_emit : MethodName := ⟨RX3, "emit", "(I)V"⟩
abbrev cX3_spreadWeights : ByteArray := prog_5_method_6_code
def yX3_spreadWeights : MethodName := ⟨RX3, "spreadWeights", "()V"⟩
abbrev cX3_weightOf : ByteArray := prog_5_method_7_code
def yX3_weightOf : MethodName := ⟨RX3, "weightOf", "(I)I"⟩
abbrev cX3_strokesByHour : ByteArray := prog_5_method_8_code
def yX3_strokesByHour : MethodName := ⟨RX3, "strokesByHour", "(II)I"⟩
abbrev cX3_strokesByPress : ByteArray := prog_5_method_9_code
def yX3_strokesByPress : MethodName := ⟨RX3, "strokesByPress", "(I[I)I"⟩
abbrev cX3_holds : ByteArray := prog_5_method_10_code
def yX3_holds : MethodName := ⟨RX3, "holds", "(II[I)Z"⟩
abbrev cX3_compares : ByteArray := prog_5_method_11_code
def yX3_compares : MethodName := ⟨RX3, "compares", "(I[I)Z"⟩
def RX4 : String := "LuckLinks$LawReader"
def TX4 : u_T := fun k => match k with
  | 0 => ("LuckLinks$LawReader", "text", "[B", false)
  | 1 => ("LuckLinks$LawReader", "law", "LLuckLinks$Law;", false)
  | 2 => ("LuckLinks$LawReader", "kinds", "[I", true)
  | 3 => ("LuckLinks$LawReader", "starts", "[I", true)
  | 4 => ("LuckLinks$LawReader", "ends", "[I", true)
  | 5 => ("LuckLinks$LawReader", "at", "I", false)
  | 6 => ("LuckLinks$LawReader", "number", "I", false)
  | 7 => ("LuckLinks$LawReader", "part", "I", false)
  | 8 => ("LuckLinks$LawReader", "waiting", "[I", true)
  | 9 => ("LuckLinks$LawReader", "waits", "I", false)
  | 10 => ("LuckLinks$LawReader", "open", "I", false)
  | _ => ("LuckLinks$LawReader", "brackets", "I", false)
def tyX4 : Nat → FieldType := fun k => match k with
  | 0 => .array .byte
  | 1 => .object "LuckLinks$Law"
  | 2 => .array .int
  | 3 => .array .int
  | 4 => .array .int
  | 5 => .int
  | 6 => .int
  | 7 => .int
  | 8 => .array .int
  | 9 => .int
  | 10 => .int
  | _ => .int
abbrev wsX40 : List Cond := u_ws RX4 TX4 12
theorem nmX4 : ∀ a, a < 12 → ∀ b, b < 12 → a ≠ b → (TX4 a).2.1 ≠ (TX4 b).2.1 := by decide +kernel
theorem tyX4_ok : ∀ k, k < 12 → parseFieldDescriptor (TX4 k).2.2.1 = some (tyX4 k) := by decide +kernel
abbrev cX4_init : ByteArray := prog_6_method_1_code
def yX4_init : MethodName := ⟨RX4, "<init>", "()V"⟩
abbrev cX4_readLaw : ByteArray := prog_6_method_2_code
def yX4_readLaw : MethodName := ⟨RX4, "readLaw", "([BILLuckLinks$Law;)I"⟩
abbrev cX4_split : ByteArray := prog_6_method_3_code
def yX4_split : MethodName := ⟨RX4, "split", "(I)V"⟩
abbrev cX4_kindOf : ByteArray := prog_6_method_4_code
def yX4_kindOf : MethodName := ⟨RX4, "kindOf", "(B)I"⟩
abbrev cX4_readRule : ByteArray := prog_6_method_5_code
def yX4_readRule : MethodName := ⟨RX4, "readRule", "()Z"⟩
abbrev cX4_readAmount : ByteArray := prog_6_method_6_code
def yX4_readAmount : MethodName := ⟨RX4, "readAmount", "([I)Z"⟩
abbrev cX4_readEntry : ByteArray := prog_6_method_7_code
def yX4_readEntry : MethodName := ⟨RX4, "readEntry", "([III)Z"⟩
abbrev cX4_readHour : ByteArray := prog_6_method_8_code
def yX4_readHour : MethodName := ⟨RX4, "readHour", "()Z"⟩
abbrev cX4_readPress : ByteArray := prog_6_method_9_code
def yX4_readPress : MethodName := ⟨RX4, "readPress", "()Z"⟩
abbrev cX4_readAny : ByteArray := prog_6_method_10_code
def yX4_readAny : MethodName := ⟨RX4, "readAny", "()Z"⟩
abbrev cX4_await : ByteArray := prog_6_method_11_code
def yX4_await : MethodName := ⟨RX4, "await", "(I)V"⟩
abbrev cX4_emitDownTo : ByteArray := prog_6_method_12_code
def yX4_emitDownTo : MethodName := ⟨RX4, "emitDownTo", "(I)V"⟩
abbrev cX4_endOne : ByteArray := prog_6_method_13_code
def yX4_endOne : MethodName := ⟨RX4, "endOne", "()V"⟩
abbrev cX4_takeJoin : ByteArray := prog_6_method_14_code
def yX4_takeJoin : MethodName := ⟨RX4, "takeJoin", "()I"⟩
abbrev cX4_readComparison : ByteArray := prog_6_method_15_code
def yX4_readComparison : MethodName := ⟨RX4, "readComparison", "()Z"⟩
abbrev cX4_wordAt : ByteArray := prog_6_method_16_code
def yX4_wordAt : MethodName := ⟨RX4, "wordAt", "(I)Ljava/lang/String;"⟩
abbrev cX4_signAt : ByteArray := prog_6_method_17_code
def yX4_signAt : MethodName := ⟨RX4, "signAt", "(I)C"⟩
abbrev cX4_partAt : ByteArray := prog_6_method_18_code
def yX4_partAt : MethodName := ⟨RX4, "partAt", "(I)Ljava/lang/String;"⟩
abbrev cX4_step : ByteArray := prog_6_method_19_code
def yX4_step : MethodName := ⟨RX4, "step", "()V"⟩
abbrev cX4_takePart : ByteArray := prog_6_method_20_code
def yX4_takePart : MethodName := ⟨RX4, "takePart", "()Z"⟩
abbrev cX4_takeWord : ByteArray := prog_6_method_21_code
def yX4_takeWord : MethodName := ⟨RX4, "takeWord", "(Ljava/lang/String;)Z"⟩
abbrev cX4_takeSign : ByteArray := prog_6_method_22_code
def yX4_takeSign : MethodName := ⟨RX4, "takeSign", "(C)Z"⟩
abbrev cX4_takeNumber : ByteArray := prog_6_method_23_code
def yX4_takeNumber : MethodName := ⟨RX4, "takeNumber", "(II)Z"⟩
def RX5 : String := "LuckLinks$Ranking"
def TX5 : u_T := fun k => match k with
  | 0 => ("LuckLinks$Ranking", "who", "[I", true)
  | 1 => ("LuckLinks$Ranking", "keys", "[I", true)
  | _ => ("LuckLinks$Ranking", "size", "I", false)
def tyX5 : Nat → FieldType := fun k => match k with
  | 0 => .array .int
  | 1 => .array .int
  | _ => .int
abbrev wsX50 : List Cond := u_ws RX5 TX5 3
theorem nmX5 : ∀ a, a < 3 → ∀ b, b < 3 → a ≠ b → (TX5 a).2.1 ≠ (TX5 b).2.1 := by decide +kernel
theorem tyX5_ok : ∀ k, k < 3 → parseFieldDescriptor (TX5 k).2.2.1 = some (tyX5 k) := by decide +kernel
abbrev cX5_init : ByteArray := prog_7_method_1_code
def yX5_init : MethodName := ⟨RX5, "<init>", "()V"⟩
abbrev cX5_clear : ByteArray := prog_7_method_2_code
def yX5_clear : MethodName := ⟨RX5, "clear", "()V"⟩
abbrev cX5_add : ByteArray := prog_7_method_3_code
def yX5_add : MethodName := ⟨RX5, "add", "(II)V"⟩
abbrev cX5_size : ByteArray := prog_7_method_4_code
def yX5_size : MethodName := ⟨RX5, "size", "()I"⟩
abbrev cX5_whoAt : ByteArray := prog_7_method_5_code
def yX5_whoAt : MethodName := ⟨RX5, "whoAt", "(I)I"⟩
abbrev cX5_keyAt : ByteArray := prog_7_method_6_code
def yX5_keyAt : MethodName := ⟨RX5, "keyAt", "(I)I"⟩
abbrev cX5_lesserThan : ByteArray := prog_7_method_7_code
def yX5_lesserThan : MethodName := ⟨RX5, "lesserThan", "(I)I"⟩
abbrev cX5_asMuchAs : ByteArray := prog_7_method_8_code
def yX5_asMuchAs : MethodName := ⟨RX5, "asMuchAs", "(I)I"⟩
def RX6 : String := "LuckLinks$Ratio"
def TX6 : u_T := fun k => match k with
  | 0 => ("LuckLinks$Ratio", "upper", "J", false)
  | _ => ("LuckLinks$Ratio", "lower", "J", false)
def tyX6 : Nat → FieldType := fun k => match k with
  | 0 => .long
  | _ => .long
abbrev wsX60 : List Cond := u_ws RX6 TX6 2
theorem nmX6 : ∀ a, a < 2 → ∀ b, b < 2 → a ≠ b → (TX6 a).2.1 ≠ (TX6 b).2.1 := by decide +kernel
theorem tyX6_ok : ∀ k, k < 2 → parseFieldDescriptor (TX6 k).2.2.1 = some (tyX6 k) := by decide +kernel
abbrev cX6_init : ByteArray := prog_8_method_1_code
def yX6_init : MethodName := ⟨RX6, "<init>", "()V"⟩
abbrev cX6_setNone : ByteArray := prog_8_method_2_code
def yX6_setNone : MethodName := ⟨RX6, "setNone", "()V"⟩
abbrev cX6_set : ByteArray := prog_8_method_3_code
def yX6_set : MethodName := ⟨RX6, "set", "(JJ)V"⟩
abbrev cX6_multiply : ByteArray := prog_8_method_4_code
def yX6_multiply : MethodName := ⟨RX6, "multiply", "(JJ)V"⟩
abbrev cX6_pick : ByteArray := prog_8_method_5_code
def yX6_pick : MethodName := ⟨RX6, "pick", "(IJ)J"⟩
abbrev cX6_divisorOf : ByteArray := prog_8_method_6_code
def yX6_divisorOf : MethodName := ⟨RX6, "divisorOf", "(JJ)J"⟩
def RX7 : String := "LuckLinks$Standings"
def TX7 : u_T := fun k => match k with
  | 0 => ("LuckLinks$Standings", "world", "LLuckLinks$World;", true)
  | 1 => ("LuckLinks$Standings", "ranking", "LLuckLinks$Ranking;", true)
  | _ => ("LuckLinks$Standings", "gains", "[I", true)
def tyX7 : Nat → FieldType := fun k => match k with
  | 0 => .object "LuckLinks$World"
  | 1 => .object "LuckLinks$Ranking"
  | _ => .array .int
abbrev wsX70 : List Cond := u_ws RX7 TX7 3
theorem nmX7 : ∀ a, a < 3 → ∀ b, b < 3 → a ≠ b → (TX7 a).2.1 ≠ (TX7 b).2.1 := by decide +kernel
theorem tyX7_ok : ∀ k, k < 3 → parseFieldDescriptor (TX7 k).2.2.1 = some (tyX7 k) := by decide +kernel
abbrev cX7_init : ByteArray := prog_9_method_1_code
def yX7_init : MethodName := ⟨RX7, "<init>", "(LLuckLinks$World;)V"⟩
abbrev cX7_lastDayOf : ByteArray := prog_9_method_2_code
def yX7_lastDayOf : MethodName := ⟨RX7, "lastDayOf", "(I)I"⟩
abbrev cX7_rankBySums : ByteArray := prog_9_method_3_code
def yX7_rankBySums : MethodName := ⟨RX7, "rankBySums", "(II)V"⟩
abbrev cX7_placeOf : ByteArray := prog_9_method_4_code
def yX7_placeOf : MethodName := ⟨RX7, "placeOf", "(II)I"⟩
abbrev cX7_shareIn : ByteArray := prog_9_method_5_code
def yX7_shareIn : MethodName := ⟨RX7, "shareIn", "(III[I)I"⟩
abbrev cX7_addShares : ByteArray := prog_9_method_6_code
def yX7_addShares : MethodName := ⟨RX7, "addShares", "(I[I)V"⟩
abbrev cX7_cutOn : ByteArray := prog_9_method_7_code
def yX7_cutOn : MethodName := ⟨RX7, "cutOn", "(IIII)I"⟩
abbrev cX7_leadersOf : ByteArray := prog_9_method_8_code
def yX7_leadersOf : MethodName := ⟨RX7, "leadersOf", "(IIII)I"⟩
abbrev cX7_rankByGains : ByteArray := prog_9_method_9_code
def yX7_rankByGains : MethodName := ⟨RX7, "rankByGains", "(III[I)V"⟩
abbrev cX7_listedAt : ByteArray := prog_9_method_10_code
def yX7_listedAt : MethodName := ⟨RX7, "listedAt", "(III[I)I"⟩
abbrev cX7_firstOf : ByteArray := prog_9_method_11_code
def yX7_firstOf : MethodName := ⟨RX7, "firstOf", "(IIII[I)I"⟩
def RX8 : String := "LuckLinks$Tallies"
def TX8 : u_T := fun k => match k with
  | 0 => ("LuckLinks$Tallies", "world", "LLuckLinks$World;", true)
  | 1 => ("LuckLinks$Tallies", "pressWeeks", "I", false)
  | 2 => ("LuckLinks$Tallies", "pressYes", "I", false)
  | 3 => ("LuckLinks$Tallies", "otherOne", "I", false)
  | 4 => ("LuckLinks$Tallies", "looked", "I", false)
  | 5 => ("LuckLinks$Tallies", "otherRows", "J", false)
  | 6 => ("LuckLinks$Tallies", "squares", "J", false)
  | _ => ("LuckLinks$Tallies", "couples", "J", false)
def tyX8 : Nat → FieldType := fun k => match k with
  | 0 => .object "LuckLinks$World"
  | 1 => .int
  | 2 => .int
  | 3 => .int
  | 4 => .int
  | 5 => .long
  | 6 => .long
  | _ => .long
abbrev wsX80 : List Cond := u_ws RX8 TX8 8
theorem nmX8 : ∀ a, a < 8 → ∀ b, b < 8 → a ≠ b → (TX8 a).2.1 ≠ (TX8 b).2.1 := by decide +kernel
theorem tyX8_ok : ∀ k, k < 8 → parseFieldDescriptor (TX8 k).2.2.1 = some (tyX8 k) := by decide +kernel
abbrev cX8_init : ByteArray := prog_10_method_1_code
def yX8_init : MethodName := ⟨RX8, "<init>", "(LLuckLinks$World;)V"⟩
abbrev cX8_compareCouples : ByteArray := prog_10_method_2_code
def yX8_compareCouples : MethodName := ⟨RX8, "compareCouples", "(IIILLuckLinks$Ratio;)V"⟩
abbrev cX8_addCouplesOfOne : ByteArray := prog_10_method_3_code
def yX8_addCouplesOfOne : MethodName := ⟨RX8, "addCouplesOfOne", "(III)V"⟩
abbrev cX8_addCouplesOfDay : ByteArray := prog_10_method_4_code
def yX8_addCouplesOfDay : MethodName := ⟨RX8, "addCouplesOfDay", "(III)V"⟩
abbrev cX8_addCouples : ByteArray := prog_10_method_5_code
def yX8_addCouples : MethodName := ⟨RX8, "addCouples", "(JJJ)V"⟩
abbrev cX8_putRight : ByteArray := prog_10_method_6_code
def yX8_putRight : MethodName := ⟨RX8, "putRight", "(IILLuckLinks$Ratio;)V"⟩
abbrev cX8_weighHour : ByteArray := prog_10_method_7_code
def yX8_weighHour : MethodName := ⟨RX8, "weighHour", "(IIILLuckLinks$Ratio;)V"⟩
abbrev cX8_chargeHour : ByteArray := prog_10_method_8_code
def yX8_chargeHour : MethodName := ⟨RX8, "chargeHour", "(IIIILLuckLinks$Ratio;)V"⟩
abbrev cX8_press : ByteArray := prog_10_method_9_code
def yX8_press : MethodName := ⟨RX8, "press", "(I)V"⟩
abbrev cX8_rowsOfPress : ByteArray := prog_10_method_10_code
def yX8_rowsOfPress : MethodName := ⟨RX8, "rowsOfPress", "()J"⟩
abbrev cX8_findOther : ByteArray := prog_10_method_11_code
def yX8_findOther : MethodName := ⟨RX8, "findOther", "()V"⟩
abbrev cX8_otherHundredths : ByteArray := prog_10_method_12_code
def yX8_otherHundredths : MethodName := ⟨RX8, "otherHundredths", "()I"⟩
abbrev cX8_lookBeside : ByteArray := prog_10_method_13_code
def yX8_lookBeside : MethodName := ⟨RX8, "lookBeside", "(ILLuckLinks$Ratio;)V"⟩
def RX9 : String := "LuckLinks$WeekDrawing"
def TX9 : u_T := fun k => match k with
  | 0 => ("LuckLinks$WeekDrawing", "world", "LLuckLinks$World;", true)
  | 1 => ("LuckLinks$WeekDrawing", "order", "LLuckLinks$Ranking;", true)
  | 2 => ("LuckLinks$WeekDrawing", "sums", "LLuckLinks$Ranking;", true)
  | _ => ("LuckLinks$WeekDrawing", "asked", "[I", true)
def tyX9 : Nat → FieldType := fun k => match k with
  | 0 => .object "LuckLinks$World"
  | 1 => .object "LuckLinks$Ranking"
  | 2 => .object "LuckLinks$Ranking"
  | _ => .array .int
abbrev wsX90 : List Cond := u_ws RX9 TX9 4
theorem nmX9 : ∀ a, a < 4 → ∀ b, b < 4 → a ≠ b → (TX9 a).2.1 ≠ (TX9 b).2.1 := by decide +kernel
theorem tyX9_ok : ∀ k, k < 4 → parseFieldDescriptor (TX9 k).2.2.1 = some (tyX9 k) := by decide +kernel
abbrev cX9_init : ByteArray := prog_11_method_1_code
def yX9_init : MethodName := ⟨RX9, "<init>", "(LLuckLinks$World;)V"⟩
abbrev cX9_drawWeek : ByteArray := prog_11_method_2_code
def yX9_drawWeek : MethodName := ⟨RX9, "drawWeek", "(IILLuckLinks$Law;)I"⟩
abbrev cX9_drift : ByteArray := prog_11_method_3_code
def yX9_drift : MethodName := ⟨RX9, "drift", "(ILLuckLinks$Law;)V"⟩
abbrev cX9_drawDay : ByteArray := prog_11_method_4_code
def yX9_drawDay : MethodName := ⟨RX9, "drawDay", "(IIILLuckLinks$Law;)V"⟩
abbrev cX9_drawStrokes : ByteArray := prog_11_method_5_code
def yX9_drawStrokes : MethodName := ⟨RX9, "drawStrokes", "(ILLuckLinks$Law;)I"⟩
abbrev cX9_goOn : ByteArray := prog_11_method_6_code
def yX9_goOn : MethodName := ⟨RX9, "goOn", "(IIII)I"⟩
abbrev cX9_draw : ByteArray := prog_11_method_7_code
def yX9_draw : MethodName := ⟨RX9, "draw", "(I)I"⟩
def RX10 : String := "LuckLinks$World"
def TX10 : u_T := fun k => match k with
  | 0 => ("LuckLinks$World", "players", "I", false)
  | 1 => ("LuckLinks$World", "gifts", "[I", true)
  | 2 => ("LuckLinks$World", "courses", "I", false)
  | 3 => ("LuckLinks$World", "courseStrokes", "[I", true)
  | 4 => ("LuckLinks$World", "weekCourse", "[I", true)
  | 5 => ("LuckLinks$World", "rounds", "I", false)
  | 6 => ("LuckLinks$World", "hours", "[I", true)
  | 7 => ("LuckLinks$World", "values", "[I", true)
  | 8 => ("LuckLinks$World", "dayRounds", "[I", true)
  | 9 => ("LuckLinks$World", "dayValues", "[I", true)
  | 10 => ("LuckLinks$World", "bets", "[I", true)
  | _ => ("LuckLinks$World", "z", "J", false)
def tyX10 : Nat → FieldType := fun k => match k with
  | 0 => .int
  | 1 => .array .int
  | 2 => .int
  | 3 => .array .int
  | 4 => .array .int
  | 5 => .int
  | 6 => .array .int
  | 7 => .array .int
  | 8 => .array .int
  | 9 => .array .int
  | 10 => .array .int
  | _ => .long
abbrev wsX100 : List Cond := u_ws RX10 TX10 12
theorem nmX10 : ∀ a, a < 12 → ∀ b, b < 12 → a ≠ b → (TX10 a).2.1 ≠ (TX10 b).2.1 := by decide +kernel
theorem tyX10_ok : ∀ k, k < 12 → parseFieldDescriptor (TX10 k).2.2.1 = some (tyX10 k) := by decide +kernel
abbrev cX10_init : ByteArray := prog_12_method_1_code
def yX10_init : MethodName := ⟨RX10, "<init>", "()V"⟩
abbrev cX10_copyFrom : ByteArray := prog_12_method_2_code
def yX10_copyFrom : MethodName := ⟨RX10, "copyFrom", "(LLuckLinks$World;)V"⟩
abbrev cX10_addPlayer : ByteArray := prog_12_method_3_code
def yX10_addPlayer : MethodName := ⟨RX10, "addPlayer", "(IIII)I"⟩
abbrev cX10_addCourse : ByteArray := prog_12_method_4_code
def yX10_addCourse : MethodName := ⟨RX10, "addCourse", "(IIII)I"⟩
abbrev cX10_putParts : ByteArray := prog_12_method_5_code
def yX10_putParts : MethodName := ⟨RX10, "putParts", "([IIIIII)V"⟩
abbrev cX10_isPlayer : ByteArray := prog_12_method_6_code
def yX10_isPlayer : MethodName := ⟨RX10, "isPlayer", "(I)Z"⟩
abbrev cX10_isField : ByteArray := prog_12_method_7_code
def yX10_isField : MethodName := ⟨RX10, "isField", "(I)Z"⟩
abbrev cX10_courseOf : ByteArray := prog_12_method_8_code
def yX10_courseOf : MethodName := ⟨RX10, "courseOf", "(I)I"⟩
abbrev cX10_giftOf : ByteArray := prog_12_method_9_code
def yX10_giftOf : MethodName := ⟨RX10, "giftOf", "(II)I"⟩
abbrev cX10_putGift : ByteArray := prog_12_method_10_code
def yX10_putGift : MethodName := ⟨RX10, "putGift", "(III)V"⟩
abbrev cX10_putBet : ByteArray := prog_12_method_11_code
def yX10_putBet : MethodName := ⟨RX10, "putBet", "(III)V"⟩
abbrev cX10_betOf : ByteArray := prog_12_method_12_code
def yX10_betOf : MethodName := ⟨RX10, "betOf", "(II)I"⟩
abbrev cX10_strokesOf : ByteArray := prog_12_method_13_code
def yX10_strokesOf : MethodName := ⟨RX10, "strokesOf", "(II)I"⟩
abbrev cX10_isFree : ByteArray := prog_12_method_14_code
def yX10_isFree : MethodName := ⟨RX10, "isFree", "(III)Z"⟩
abbrev cX10_addRound : ByteArray := prog_12_method_15_code
def yX10_addRound : MethodName := ⟨RX10, "addRound", "(IIII)I"⟩
abbrev cX10_addValue : ByteArray := prog_12_method_16_code
def yX10_addValue : MethodName := ⟨RX10, "addValue", "(IIII)V"⟩
abbrev cX10_slotOf : ByteArray := prog_12_method_17_code
def yX10_slotOf : MethodName := ⟨RX10, "slotOf", "(III)I"⟩
abbrev cX10_hourOf : ByteArray := prog_12_method_18_code
def yX10_hourOf : MethodName := ⟨RX10, "hourOf", "(III)I"⟩
abbrev cX10_hasRound : ByteArray := prog_12_method_19_code
def yX10_hasRound : MethodName := ⟨RX10, "hasRound", "(III)Z"⟩
abbrev cX10_roundsOn : ByteArray := prog_12_method_20_code
def yX10_roundsOn : MethodName := ⟨RX10, "roundsOn", "(II)I"⟩
abbrev cX10_valueOf : ByteArray := prog_12_method_21_code
def yX10_valueOf : MethodName := ⟨RX10, "valueOf", "(IIII)I"⟩
abbrev cX10_allOf : ByteArray := prog_12_method_22_code
def yX10_allOf : MethodName := ⟨RX10, "allOf", "(III)I"⟩
abbrev cX10_sumOf : ByteArray := prog_12_method_23_code
def yX10_sumOf : MethodName := ⟨RX10, "sumOf", "(III)I"⟩
abbrev cX10_offOf : ByteArray := prog_12_method_24_code
def yX10_offOf : MethodName := ⟨RX10, "offOf", "(IIII)J"⟩
def RX11 : String := "LuckLinks"
def TX11 : u_T := fun k => match k with
  | 0 => ("LuckLinks", "world", "LLuckLinks$World;", true)
  | 1 => ("LuckLinks", "images", "[LLuckLinks$World;", true)
  | 2 => ("LuckLinks", "imageCount", "I", false)
  | 3 => ("LuckLinks", "tape", "[B", true)
  | 4 => ("LuckLinks", "tapeLength", "I", false)
  | 5 => ("LuckLinks", "reader", "LLuckLinks$LawReader;", true)
  | 6 => ("LuckLinks", "law", "LLuckLinks$Law;", false)
  | 7 => ("LuckLinks", "spare", "LLuckLinks$Law;", false)
  | 8 => ("LuckLinks", "faultPlace", "I", false)
  | 9 => ("LuckLinks", "refused", "[I", true)
  | 10 => ("LuckLinks", "ratio", "LLuckLinks$Ratio;", true)
  | 11 => ("LuckLinks", "drawing", "LLuckLinks$WeekDrawing;", true)
  | 12 => ("LuckLinks", "standings", "LLuckLinks$Standings;", true)
  | 13 => ("LuckLinks", "form", "LLuckLinks$Form;", true)
  | 14 => ("LuckLinks", "halves", "LLuckLinks$Halves;", true)
  | 15 => ("LuckLinks", "chances", "LLuckLinks$Chances;", true)
  | _ => ("LuckLinks", "tallies", "LLuckLinks$Tallies;", true)
def tyX11 : Nat → FieldType := fun k => match k with
  | 0 => .object "LuckLinks$World"
  | 1 => .array (.object "LuckLinks$World")
  | 2 => .int
  | 3 => .array .byte
  | 4 => .int
  | 5 => .object "LuckLinks$LawReader"
  | 6 => .object "LuckLinks$Law"
  | 7 => .object "LuckLinks$Law"
  | 8 => .int
  | 9 => .array .int
  | 10 => .object "LuckLinks$Ratio"
  | 11 => .object "LuckLinks$WeekDrawing"
  | 12 => .object "LuckLinks$Standings"
  | 13 => .object "LuckLinks$Form"
  | 14 => .object "LuckLinks$Halves"
  | 15 => .object "LuckLinks$Chances"
  | _ => .object "LuckLinks$Tallies"
abbrev wsX110 : List Cond := u_ws RX11 TX11 17
theorem nmX11 : ∀ a, a < 17 → ∀ b, b < 17 → a ≠ b → (TX11 a).2.1 ≠ (TX11 b).2.1 := by decide +kernel
theorem tyX11_ok : ∀ k, k < 17 → parseFieldDescriptor (TX11 k).2.2.1 = some (tyX11 k) := by decide +kernel
abbrev cX11_init : ByteArray := prog_1_method_1_code
def yX11_init : MethodName := ⟨RX11, "<init>", "()V"⟩
abbrev cX11_player : ByteArray := prog_1_method_2_code
def yX11_player : MethodName := ⟨RX11, "player", "(IIII)I"⟩
abbrev cX11_course : ByteArray := prog_1_method_3_code
def yX11_course : MethodName := ⟨RX11, "course", "(IIII)I"⟩
abbrev cX11_week : ByteArray := prog_1_method_4_code
def yX11_week : MethodName := ⟨RX11, "week", "(II)Z"⟩
abbrev cX11_round : ByteArray := prog_1_method_5_code
def yX11_round : MethodName := ⟨RX11, "round", "(IIII)I"⟩
abbrev cX11_bet : ByteArray := prog_1_method_6_code
def yX11_bet : MethodName := ⟨RX11, "bet", "(III)Z"⟩
abbrev cX11_seed : ByteArray := prog_1_method_7_code
def yX11_seed : MethodName := ⟨RX11, "seed", "(I)Z"⟩
abbrev cX11_feed : ByteArray := prog_1_method_8_code
def yX11_feed : MethodName := ⟨RX11, "feed", "(IIIII)I"⟩
abbrev cX11_law : ByteArray := prog_1_method_9_code
def yX11_law : MethodName := ⟨RX11, "law", "(I)I"⟩
abbrev cX11_fault : ByteArray := prog_1_method_10_code
def yX11_fault : MethodName := ⟨RX11, "fault", "()I"⟩
abbrev cX11_rule : ByteArray := prog_1_method_11_code
def yX11_rule : MethodName := ⟨RX11, "rule", "(I)I"⟩
abbrev cX11_run : ByteArray := prog_1_method_12_code
def yX11_run : MethodName := ⟨RX11, "run", "(II)I"⟩
abbrev cX11_gift : ByteArray := prog_1_method_13_code
def yX11_gift : MethodName := ⟨RX11, "gift", "(II)I"⟩
abbrev cX11_score : ByteArray := prog_1_method_14_code
def yX11_score : MethodName := ⟨RX11, "score", "(IIII)I"⟩
abbrev cX11_place : ByteArray := prog_1_method_15_code
def yX11_place : MethodName := ⟨RX11, "place", "(II)I"⟩
abbrev cX11_won : ByteArray := prog_1_method_16_code
def yX11_won : MethodName := ⟨RX11, "won", "(IIII)I"⟩
abbrev cX11_cut : ByteArray := prog_1_method_17_code
def yX11_cut : MethodName := ⟨RX11, "cut", "(III)I"⟩
abbrev cX11_luck : ByteArray := prog_1_method_18_code
def yX11_luck : MethodName := ⟨RX11, "luck", "(IIII)J"⟩
abbrev cX11_back : ByteArray := prog_1_method_19_code
def yX11_back : MethodName := ⟨RX11, "back", "(IIIII)I"⟩
abbrev cX11_skill : ByteArray := prog_1_method_20_code
def yX11_skill : MethodName := ⟨RX11, "skill", "(IIII)J"⟩
abbrev cX11_span : ByteArray := prog_1_method_21_code
def yX11_span : MethodName := ⟨RX11, "span", "(IIII)I"⟩
abbrev cX11_best : ByteArray := prog_1_method_22_code
def yX11_best : MethodName := ⟨RX11, "best", "(I)I"⟩
abbrev cX11_years : ByteArray := prog_1_method_23_code
def yX11_years : MethodName := ⟨RX11, "years", "(I)I"⟩
abbrev cX11_odds : ByteArray := prog_1_method_24_code
def yX11_odds : MethodName := ⟨RX11, "odds", "(III)I"⟩
abbrev cX11_need : ByteArray := prog_1_method_25_code
def yX11_need : MethodName := ⟨RX11, "need", "(II)I"⟩
abbrev cX11_lasts : ByteArray := prog_1_method_26_code
def yX11_lasts : MethodName := ⟨RX11, "lasts", "(IIIII)I"⟩
abbrev cX11_most : ByteArray := prog_1_method_27_code
def yX11_most : MethodName := ⟨RX11, "most", "(III)I"⟩
abbrev cX11_right : ByteArray := prog_1_method_28_code
def yX11_right : MethodName := ⟨RX11, "right", "(III)J"⟩
abbrev cX11_listed : ByteArray := prog_1_method_29_code
def yX11_listed : MethodName := ⟨RX11, "listed", "(III)I"⟩
abbrev cX11_line : ByteArray := prog_1_method_30_code
def yX11_line : MethodName := ⟨RX11, "line", "(IIII)I"⟩
abbrev cX11_held : ByteArray := prog_1_method_31_code
def yX11_held : MethodName := ⟨RX11, "held", "(II)I"⟩
abbrev cX11_worth : ByteArray := prog_1_method_32_code
def yX11_worth : MethodName := ⟨RX11, "worth", "(IIII)J"⟩
abbrev cX11_cost : ByteArray := prog_1_method_33_code
def yX11_cost : MethodName := ⟨RX11, "cost", "(IIIII)J"⟩
abbrev cX11_pressed : ByteArray := prog_1_method_34_code
def yX11_pressed : MethodName := ⟨RX11, "pressed", "(II)J"⟩
abbrev cX11_other : ByteArray := prog_1_method_35_code
def yX11_other : MethodName := ⟨RX11, "other", "(I)I"⟩
abbrev cX11_beside : ByteArray := prog_1_method_36_code
def yX11_beside : MethodName := ⟨RX11, "beside", "(II)J"⟩
abbrev cX11_image : ByteArray := prog_1_method_37_code
def yX11_image : MethodName := ⟨RX11, "image", "()I"⟩
abbrev cX11_restore : ByteArray := prog_1_method_38_code
def yX11_restore : MethodName := ⟨RX11, "restore", "(I)Z"⟩
abbrev cX11_count : ByteArray := prog_1_method_39_code
def yX11_count : MethodName := ⟨RX11, "count", "(I)I"⟩
abbrev cX11_refuse : ByteArray := prog_1_method_40_code
def yX11_refuse : MethodName := ⟨RX11, "refuse", "(I)I"⟩
abbrev cX11_feedNumber : ByteArray := prog_1_method_41_code
def yX11_feedNumber : MethodName := ⟨RX11, "feedNumber", "(I)V"⟩
abbrev cX11_isBetween : ByteArray := prog_1_method_42_code
def yX11_isBetween : MethodName := ⟨RX11, "isBetween", "(III)Z"⟩
abbrev cX11_areBetween : ByteArray := prog_1_method_43_code
def yX11_areBetween : MethodName := ⟨RX11, "areBetween", "(IIIIII)Z"⟩
abbrev cX11_isWeek : ByteArray := prog_1_method_44_code
def yX11_isWeek : MethodName := ⟨RX11, "isWeek", "(I)Z"⟩
abbrev cX11_areWeeks : ByteArray := prog_1_method_45_code
def yX11_areWeeks : MethodName := ⟨RX11, "areWeeks", "(II)Z"⟩
abbrev cX11_areHalves : ByteArray := prog_1_method_46_code
def yX11_areHalves : MethodName := ⟨RX11, "areHalves", "(III)Z"⟩
abbrev cX11_isPart : ByteArray := prog_1_method_47_code
def yX11_isPart : MethodName := ⟨RX11, "isPart", "(I)Z"⟩
def RX12 : String := "LuckLinksModel"
def TX12 : u_T := fun k => match k with
  | 0 => ("LuckLinksModel", "players", "[I", true)
  | 1 => ("LuckLinksModel", "courses", "[I", true)
  | 2 => ("LuckLinksModel", "rounds", "[I", true)
  | 3 => ("LuckLinksModel", "zs", "[J", true)
  | 4 => ("LuckLinksModel", "gifts", "[I", true)
  | 5 => ("LuckLinksModel", "courseStrokes", "[I", true)
  | 6 => ("LuckLinksModel", "weekCourse", "[I", true)
  | 7 => ("LuckLinksModel", "has", "[Z", true)
  | 8 => ("LuckLinksModel", "hasBet", "[Z", true)
  | 9 => ("LuckLinksModel", "hours", "[I", true)
  | 10 => ("LuckLinksModel", "strokes", "[I", true)
  | 11 => ("LuckLinksModel", "bets", "[I", true)
  | 12 => ("LuckLinksModel", "images", "I", false)
  | 13 => ("LuckLinksModel", "refused", "[I", true)
  | 14 => ("LuckLinksModel", "rulesMany", "[I", true)
  | 15 => ("LuckLinksModel", "hourMany", "[I", true)
  | 16 => ("LuckLinksModel", "pressMany", "[I", true)
  | 17 => ("LuckLinksModel", "drifts", "[I", true)
  | 18 => ("LuckLinksModel", "lucks", "[I", true)
  | 19 => ("LuckLinksModel", "cuts", "[I", true)
  | 20 => ("LuckLinksModel", "prizes", "[I", true)
  | 21 => ("LuckLinksModel", "points", "[I", true)
  | 22 => ("LuckLinksModel", "weights", "[I", true)
  | 23 => ("LuckLinksModel", "hasWeight", "[Z", true)
  | 24 => ("LuckLinksModel", "hourPart", "[I", true)
  | 25 => ("LuckLinksModel", "hourMore", "[I", true)
  | 26 => ("LuckLinksModel", "hourFrom", "[I", true)
  | 27 => ("LuckLinksModel", "pressPart", "[I", true)
  | 28 => ("LuckLinksModel", "pressMore", "[I", true)
  | 29 => ("LuckLinksModel", "pressFrom", "[I", true)
  | 30 => ("LuckLinksModel", "pressTo", "[I", true)
  | 31 => ("LuckLinksModel", "written", "I", false)
  | 32 => ("LuckLinksModel", "stepKind", "[I", true)
  | 33 => ("LuckLinksModel", "stepWord", "[I", true)
  | 34 => ("LuckLinksModel", "stepSign", "[I", true)
  | 35 => ("LuckLinksModel", "stepNumber", "[I", true)
  | 36 => ("LuckLinksModel", "tape", "[B", true)
  | 37 => ("LuckLinksModel", "taped", "I", false)
  | 38 => ("LuckLinksModel", "faultAt", "I", false)
  | 39 => ("LuckLinksModel", "limit", "I", false)
  | 40 => ("LuckLinksModel", "point", "I", false)
  | 41 => ("LuckLinksModel", "from", "I", false)
  | 42 => ("LuckLinksModel", "token", "I", false)
  | 43 => ("LuckLinksModel", "value", "I", false)
  | 44 => ("LuckLinksModel", "text", "J", false)
  | 45 => ("LuckLinksModel", "isWrong", "Z", false)
  | 46 => ("LuckLinksModel", "opened", "[I", true)
  | 47 => ("LuckLinksModel", "joined", "[I", true)
  | 48 => ("LuckLinksModel", "opens", "I", false)
  | 49 => ("LuckLinksModel", "asks", "[I", true)
  | 50 => ("LuckLinksModel", "pile", "[Z", true)
  | 51 => ("LuckLinksModel", "in", "[I", true)
  | 52 => ("LuckLinksModel", "sums", "[I", true)
  | 53 => ("LuckLinksModel", "inMany", "I", false)
  | 54 => ("LuckLinksModel", "dayMany", "I", false)
  | 55 => ("LuckLinksModel", "daySum", "I", false)
  | 56 => ("LuckLinksModel", "lead", "I", false)
  | 57 => ("LuckLinksModel", "nextLead", "I", false)
  | 58 => ("LuckLinksModel", "leaders", "I", false)
  | 59 => ("LuckLinksModel", "skillUp", "J", false)
  | 60 => ("LuckLinksModel", "skillWeight", "J", false)
  | 61 => ("LuckLinksModel", "ways", "[J", true)
  | 62 => ("LuckLinksModel", "waysNext", "[J", true)
  | 63 => ("LuckLinksModel", "lot", "[J", true)
  | 64 => ("LuckLinksModel", "wholes", "[I", true)
  | 65 => ("LuckLinksModel", "apart", "[J", true)
  | 66 => ("LuckLinksModel", "apartNext", "[J", true)
  | 67 => ("LuckLinksModel", "once", "[J", true)
  | 68 => ("LuckLinksModel", "offs", "[J", true)
  | 69 => ("LuckLinksModel", "many", "[I", true)
  | 70 => ("LuckLinksModel", "amounts", "[I", true)
  | 71 => ("LuckLinksModel", "worthUp", "J", false)
  | 72 => ("LuckLinksModel", "worthBelow", "J", false)
  | 73 => ("LuckLinksModel", "pressedMany", "I", false)
  | _ => ("LuckLinksModel", "pressedAll", "I", false)
def tyX12 : Nat → FieldType := fun k => match k with
  | 0 => .array .int
  | 1 => .array .int
  | 2 => .array .int
  | 3 => .array .long
  | 4 => .array .int
  | 5 => .array .int
  | 6 => .array .int
  | 7 => .array .boolean
  | 8 => .array .boolean
  | 9 => .array .int
  | 10 => .array .int
  | 11 => .array .int
  | 12 => .int
  | 13 => .array .int
  | 14 => .array .int
  | 15 => .array .int
  | 16 => .array .int
  | 17 => .array .int
  | 18 => .array .int
  | 19 => .array .int
  | 20 => .array .int
  | 21 => .array .int
  | 22 => .array .int
  | 23 => .array .boolean
  | 24 => .array .int
  | 25 => .array .int
  | 26 => .array .int
  | 27 => .array .int
  | 28 => .array .int
  | 29 => .array .int
  | 30 => .array .int
  | 31 => .int
  | 32 => .array .int
  | 33 => .array .int
  | 34 => .array .int
  | 35 => .array .int
  | 36 => .array .byte
  | 37 => .int
  | 38 => .int
  | 39 => .int
  | 40 => .int
  | 41 => .int
  | 42 => .int
  | 43 => .int
  | 44 => .long
  | 45 => .boolean
  | 46 => .array .int
  | 47 => .array .int
  | 48 => .int
  | 49 => .array .int
  | 50 => .array .boolean
  | 51 => .array .int
  | 52 => .array .int
  | 53 => .int
  | 54 => .int
  | 55 => .int
  | 56 => .int
  | 57 => .int
  | 58 => .int
  | 59 => .long
  | 60 => .long
  | 61 => .array .long
  | 62 => .array .long
  | 63 => .array .long
  | 64 => .array .int
  | 65 => .array .long
  | 66 => .array .long
  | 67 => .array .long
  | 68 => .array .long
  | 69 => .array .int
  | 70 => .array .int
  | 71 => .long
  | 72 => .long
  | 73 => .int
  | _ => .int
abbrev wsX120 : List Cond := u_ws RX12 TX12 75
theorem nmX12 : ∀ a, a < 75 → ∀ b, b < 75 → a ≠ b → (TX12 a).2.1 ≠ (TX12 b).2.1 := by decide +kernel
theorem tyX12_ok : ∀ k, k < 75 → parseFieldDescriptor (TX12 k).2.2.1 = some (tyX12 k) := by decide +kernel
abbrev cX12_init : ByteArray := prog_14_method_1_code
def yX12_init : MethodName := ⟨RX12, "<init>", "()V"⟩
abbrev cX12_within : ByteArray := prog_14_method_3_code
def yX12_within : MethodName := ⟨RX12, "within", "(III)Z"⟩
abbrev cX12_bitsOf : ByteArray := prog_14_method_4_code
def yX12_bitsOf : MethodName := ⟨RX12, "bitsOf", "(I)I"⟩
abbrev cX12_copies : ByteArray := prog_14_method_5_code
def yX12_copies : MethodName := ⟨RX12, "copies", "(II)V"⟩
abbrev cX12_refuses : ByteArray := prog_14_method_6_code
def yX12_refuses : MethodName := ⟨RX12, "refuses", "(I)I"⟩
abbrev cX12_isNot : ByteArray := prog_14_method_7_code
def yX12_isNot : MethodName := ⟨RX12, "isNot", "()Z"⟩
abbrev cX12_image : ByteArray := prog_14_method_8_code
def yX12_image : MethodName := ⟨RX12, "image", "()I"⟩
abbrev cX12_restore : ByteArray := prog_14_method_9_code
def yX12_restore : MethodName := ⟨RX12, "restore", "(I)Z"⟩
abbrev cX12_isPlayer : ByteArray := prog_14_method_10_code
def yX12_isPlayer : MethodName := ⟨RX12, "isPlayer", "(I)Z"⟩
abbrev cX12_isWeek : ByteArray := prog_14_method_11_code
def yX12_isWeek : MethodName := ⟨RX12, "isWeek", "(I)Z"⟩
abbrev cX12_areWeeks : ByteArray := prog_14_method_12_code
def yX12_areWeeks : MethodName := ⟨RX12, "areWeeks", "(II)Z"⟩
abbrev cX12_slot : ByteArray := prog_14_method_13_code
def yX12_slot : MethodName := ⟨RX12, "slot", "(III)I"⟩
abbrev cX12_held : ByteArray := prog_14_method_14_code
def yX12_held : MethodName := ⟨RX12, "held", "(III)I"⟩
abbrev cX12_player : ByteArray := prog_14_method_15_code
def yX12_player : MethodName := ⟨RX12, "player", "(IIII)I"⟩
abbrev cX12_course : ByteArray := prog_14_method_16_code
def yX12_course : MethodName := ⟨RX12, "course", "(IIII)I"⟩
abbrev cX12_week : ByteArray := prog_14_method_17_code
def yX12_week : MethodName := ⟨RX12, "week", "(II)Z"⟩
abbrev cX12_round : ByteArray := prog_14_method_18_code
def yX12_round : MethodName := ⟨RX12, "round", "(IIII)I"⟩
abbrev cX12_adds : ByteArray := prog_14_method_19_code
def yX12_adds : MethodName := ⟨RX12, "adds", "(II)V"⟩
abbrev cX12_bet : ByteArray := prog_14_method_20_code
def yX12_bet : MethodName := ⟨RX12, "bet", "(III)Z"⟩
abbrev cX12_seed : ByteArray := prog_14_method_21_code
def yX12_seed : MethodName := ⟨RX12, "seed", "(I)Z"⟩
abbrev cX12_feed : ByteArray := prog_14_method_22_code
def yX12_feed : MethodName := ⟨RX12, "feed", "(IIIII)I"⟩
abbrev cX12_here : ByteArray := prog_14_method_23_code
def yX12_here : MethodName := ⟨RX12, "here", "()I"⟩
abbrev cX12_next : ByteArray := prog_14_method_24_code
def yX12_next : MethodName := ⟨RX12, "next", "()V"⟩
abbrev cX12_errs : ByteArray := prog_14_method_25_code
def yX12_errs : MethodName := ⟨RX12, "errs", "()V"⟩
abbrev cX12_is : ByteArray := prog_14_method_26_code
def yX12_is : MethodName := ⟨RX12, "is", "(J)Z"⟩
abbrev cX12_numeral : ByteArray := prog_14_method_27_code
def yX12_numeral : MethodName := ⟨RX12, "numeral", "(II)I"⟩
abbrev cX12_ruleHere : ByteArray := prog_14_method_28_code
def yX12_ruleHere : MethodName := ⟨RX12, "ruleHere", "()I"⟩
abbrev cX12_partHere : ByteArray := prog_14_method_29_code
def yX12_partHere : MethodName := ⟨RX12, "partHere", "()I"⟩
abbrev cX12_wordHere : ByteArray := prog_14_method_30_code
def yX12_wordHere : MethodName := ⟨RX12, "wordHere", "()I"⟩
abbrev cX12_step : ByteArray := prog_14_method_31_code
def yX12_step : MethodName := ⟨RX12, "step", "(IIII)V"⟩
abbrev cX12_readTest : ByteArray := prog_14_method_32_code
def yX12_readTest : MethodName := ⟨RX12, "readTest", "()V"⟩
abbrev cX12_closes : ByteArray := prog_14_method_33_code
def yX12_closes : MethodName := ⟨RX12, "closes", "()Z"⟩
abbrev cX12_readCondition : ByteArray := prog_14_method_34_code
def yX12_readCondition : MethodName := ⟨RX12, "readCondition", "()V"⟩
abbrev cX12_readHour : ByteArray := prog_14_method_35_code
def yX12_readHour : MethodName := ⟨RX12, "readHour", "()V"⟩
abbrev cX12_readPress : ByteArray := prog_14_method_36_code
def yX12_readPress : MethodName := ⟨RX12, "readPress", "()V"⟩
abbrev cX12_readRule : ByteArray := prog_14_method_37_code
def yX12_readRule : MethodName := ⟨RX12, "readRule", "()V"⟩
abbrev cX12_clears : ByteArray := prog_14_method_38_code
def yX12_clears : MethodName := ⟨RX12, "clears", "()V"⟩
abbrev cX12_takes : ByteArray := prog_14_method_39_code
def yX12_takes : MethodName := ⟨RX12, "takes", "()V"⟩
abbrev cX12_law : ByteArray := prog_14_method_40_code
def yX12_law : MethodName := ⟨RX12, "law", "(I)I"⟩
abbrev cX12_fault : ByteArray := prog_14_method_41_code
def yX12_fault : MethodName := ⟨RX12, "fault", "()I"⟩
abbrev cX12_rule : ByteArray := prog_14_method_42_code
def yX12_rule : MethodName := ⟨RX12, "rule", "(I)I"⟩
abbrev cX12_weightOf : ByteArray := prog_14_method_43_code
def yX12_weightOf : MethodName := ⟨RX12, "weightOf", "(I)I"⟩
abbrev cX12_holds : ByteArray := prog_14_method_44_code
def yX12_holds : MethodName := ⟨RX12, "holds", "(I)Z"⟩
abbrev cX12_draw : ByteArray := prog_14_method_45_code
def yX12_draw : MethodName := ⟨RX12, "draw", "(I)I"⟩
abbrev cX12_putInOrder : ByteArray := prog_14_method_46_code
def yX12_putInOrder : MethodName := ⟨RX12, "putInOrder", "()V"⟩
abbrev cX12_strokeOf : ByteArray := prog_14_method_47_code
def yX12_strokeOf : MethodName := ⟨RX12, "strokeOf", "(IIII)I"⟩
abbrev cX12_leastSum : ByteArray := prog_14_method_48_code
def yX12_leastSum : MethodName := ⟨RX12, "leastSum", "()I"⟩
abbrev cX12_drawDay : ByteArray := prog_14_method_49_code
def yX12_drawDay : MethodName := ⟨RX12, "drawDay", "(II)V"⟩
abbrev cX12_lineAt : ByteArray := prog_14_method_50_code
def yX12_lineAt : MethodName := ⟨RX12, "lineAt", "(I)I"⟩
abbrev cX12_run : ByteArray := prog_14_method_51_code
def yX12_run : MethodName := ⟨RX12, "run", "(II)I"⟩
abbrev cX12_gift : ByteArray := prog_14_method_52_code
def yX12_gift : MethodName := ⟨RX12, "gift", "(II)I"⟩
abbrev cX12_valueAt : ByteArray := prog_14_method_53_code
def yX12_valueAt : MethodName := ⟨RX12, "valueAt", "(II)I"⟩
abbrev cX12_partOf : ByteArray := prog_14_method_54_code
def yX12_partOf : MethodName := ⟨RX12, "partOf", "(I)I"⟩
abbrev cX12_isPart : ByteArray := prog_14_method_55_code
def yX12_isPart : MethodName := ⟨RX12, "isPart", "(I)Z"⟩
abbrev cX12_score : ByteArray := prog_14_method_56_code
def yX12_score : MethodName := ⟨RX12, "score", "(IIII)I"⟩
abbrev cX12_countDay : ByteArray := prog_14_method_57_code
def yX12_countDay : MethodName := ⟨RX12, "countDay", "(III)V"⟩
abbrev cX12_offOf : ByteArray := prog_14_method_58_code
def yX12_offOf : MethodName := ⟨RX12, "offOf", "(IIII)J"⟩
abbrev cX12_wholeSum : ByteArray := prog_14_method_59_code
def yX12_wholeSum : MethodName := ⟨RX12, "wholeSum", "(II)I"⟩
abbrev cX12_placeOf : ByteArray := prog_14_method_60_code
def yX12_placeOf : MethodName := ⟨RX12, "placeOf", "(II)I"⟩
abbrev cX12_place : ByteArray := prog_14_method_61_code
def yX12_place : MethodName := ⟨RX12, "place", "(II)I"⟩
abbrev cX12_wonIn : ByteArray := prog_14_method_62_code
def yX12_wonIn : MethodName := ⟨RX12, "wonIn", "(IIZ)I"⟩
abbrev cX12_won : ByteArray := prog_14_method_63_code
def yX12_won : MethodName := ⟨RX12, "won", "(IIII)I"⟩
abbrev cX12_sumTo : ByteArray := prog_14_method_64_code
def yX12_sumTo : MethodName := ⟨RX12, "sumTo", "(III)I"⟩
abbrev cX12_cut : ByteArray := prog_14_method_65_code
def yX12_cut : MethodName := ⟨RX12, "cut", "(III)I"⟩
abbrev cX12_divisor : ByteArray := prog_14_method_66_code
def yX12_divisor : MethodName := ⟨RX12, "divisor", "(JJ)J"⟩
abbrev cX12_lowest : ByteArray := prog_14_method_67_code
def yX12_lowest : MethodName := ⟨RX12, "lowest", "(JJI)J"⟩
abbrev cX12_luck : ByteArray := prog_14_method_68_code
def yX12_luck : MethodName := ⟨RX12, "luck", "(IIII)J"⟩
abbrev cX12_leadsIn : ByteArray := prog_14_method_69_code
def yX12_leadsIn : MethodName := ⟨RX12, "leadsIn", "(III)V"⟩
abbrev cX12_back : ByteArray := prog_14_method_70_code
def yX12_back : MethodName := ⟨RX12, "back", "(IIIII)I"⟩
abbrev cX12_findSkill : ByteArray := prog_14_method_71_code
def yX12_findSkill : MethodName := ⟨RX12, "findSkill", "(IIII)V"⟩
abbrev cX12_isAhead : ByteArray := prog_14_method_72_code
def yX12_isAhead : MethodName := ⟨RX12, "isAhead", "(I)Z"⟩
abbrev cX12_skill : ByteArray := prog_14_method_73_code
def yX12_skill : MethodName := ⟨RX12, "skill", "(IIII)J"⟩
abbrev cX12_skillBy : ByteArray := prog_14_method_74_code
def yX12_skillBy : MethodName := ⟨RX12, "skillBy", "(I)I"⟩
abbrev cX12_played : ByteArray := prog_14_method_75_code
def yX12_played : MethodName := ⟨RX12, "played", "(II)Z"⟩
abbrev cX12_span : ByteArray := prog_14_method_76_code
def yX12_span : MethodName := ⟨RX12, "span", "(IIII)I"⟩
abbrev cX12_bestOf : ByteArray := prog_14_method_77_code
def yX12_bestOf : MethodName := ⟨RX12, "bestOf", "(I)I"⟩
abbrev cX12_best : ByteArray := prog_14_method_78_code
def yX12_best : MethodName := ⟨RX12, "best", "(I)I"⟩
abbrev cX12_years : ByteArray := prog_14_method_79_code
def yX12_years : MethodName := ⟨RX12, "years", "(I)I"⟩
abbrev cX12_findLot : ByteArray := prog_14_method_80_code
def yX12_findLot : MethodName := ⟨RX12, "findLot", "()V"⟩
abbrev cX12_odds : ByteArray := prog_14_method_81_code
def yX12_odds : MethodName := ⟨RX12, "odds", "(III)I"⟩
abbrev cX12_findOnce : ByteArray := prog_14_method_82_code
def yX12_findOnce : MethodName := ⟨RX12, "findOnce", "()V"⟩
abbrev cX12_need : ByteArray := prog_14_method_83_code
def yX12_need : MethodName := ⟨RX12, "need", "(II)I"⟩
abbrev cX12_findHalves : ByteArray := prog_14_method_84_code
def yX12_findHalves : MethodName := ⟨RX12, "findHalves", "(IIII)V"⟩
abbrev cX12_orderOf : ByteArray := prog_14_method_85_code
def yX12_orderOf : MethodName := ⟨RX12, "orderOf", "(II)I"⟩
abbrev cX12_lastsBy : ByteArray := prog_14_method_86_code
def yX12_lastsBy : MethodName := ⟨RX12, "lastsBy", "(IIIII)I"⟩
abbrev cX12_areHalves : ByteArray := prog_14_method_87_code
def yX12_areHalves : MethodName := ⟨RX12, "areHalves", "(III)Z"⟩
abbrev cX12_lasts : ByteArray := prog_14_method_88_code
def yX12_lasts : MethodName := ⟨RX12, "lasts", "(IIIII)I"⟩
abbrev cX12_most : ByteArray := prog_14_method_89_code
def yX12_most : MethodName := ⟨RX12, "most", "(III)I"⟩
abbrev cX12_right : ByteArray := prog_14_method_90_code
def yX12_right : MethodName := ⟨RX12, "right", "(III)J"⟩
abbrev cX12_findPoints : ByteArray := prog_14_method_91_code
def yX12_findPoints : MethodName := ⟨RX12, "findPoints", "(III)V"⟩
abbrev cX12_rankOf : ByteArray := prog_14_method_92_code
def yX12_rankOf : MethodName := ⟨RX12, "rankOf", "(I)I"⟩
abbrev cX12_firstOnes : ByteArray := prog_14_method_93_code
def yX12_firstOnes : MethodName := ⟨RX12, "firstOnes", "(I)I"⟩
abbrev cX12_listed : ByteArray := prog_14_method_94_code
def yX12_listed : MethodName := ⟨RX12, "listed", "(III)I"⟩
abbrev cX12_line : ByteArray := prog_14_method_95_code
def yX12_line : MethodName := ⟨RX12, "line", "(IIII)I"⟩
abbrev cX12_hundredths : ByteArray := prog_14_method_96_code
def yX12_hundredths : MethodName := ⟨RX12, "hundredths", "(JJ)I"⟩
abbrev cX12_lastOff : ByteArray := prog_14_method_97_code
def yX12_lastOff : MethodName := ⟨RX12, "lastOff", "(II)I"⟩
abbrev cX12_apartBy : ByteArray := prog_14_method_98_code
def yX12_apartBy : MethodName := ⟨RX12, "apartBy", "(II)I"⟩
abbrev cX12_held_ : ByteArray := prog_14_method_99_code
def yX12_held_ : MethodName := ⟨RX12, "held", "(II)I"⟩
abbrev cX12_findWorth : ByteArray := prog_14_method_100_code
def yX12_findWorth : MethodName := ⟨RX12, "findWorth", "(III)V"⟩
abbrev cX12_worth : ByteArray := prog_14_method_101_code
def yX12_worth : MethodName := ⟨RX12, "worth", "(IIII)J"⟩
abbrev cX12_cost : ByteArray := prog_14_method_102_code
def yX12_cost : MethodName := ⟨RX12, "cost", "(IIIII)J"⟩
abbrev cX12_findPressed : ByteArray := prog_14_method_103_code
def yX12_findPressed : MethodName := ⟨RX12, "findPressed", "(I)V"⟩
abbrev cX12_rowsOf : ByteArray := prog_14_method_104_code
def yX12_rowsOf : MethodName := ⟨RX12, "rowsOf", "(II)J"⟩
abbrev cX12_pressed : ByteArray := prog_14_method_105_code
def yX12_pressed : MethodName := ⟨RX12, "pressed", "(II)J"⟩
abbrev cX12_other : ByteArray := prog_14_method_106_code
def yX12_other : MethodName := ⟨RX12, "other", "(I)I"⟩
abbrev cX12_beside : ByteArray := prog_14_method_107_code
def yX12_beside : MethodName := ⟨RX12, "beside", "(II)J"⟩
abbrev cX12_count : ByteArray := prog_14_method_108_code
def yX12_count : MethodName := ⟨RX12, "count", "(I)I"⟩
def RJx145de : String := "java/io/Serializable"
def TJx145de : u_T := fun k => match k with
  | _ => ("", "", "", false)
def tyJx145de : Nat → FieldType := fun k => match k with
  | _ => .int
abbrev wsJx145de0 : List Cond := u_ws RJx145de TJx145de 0
theorem nmJx145de : ∀ a, a < 0 → ∀ b, b < 0 → a ≠ b → (TJx145de a).2.1 ≠ (TJx145de b).2.1 := by decide +kernel
theorem tyJx145de_ok : ∀ k, k < 0 → parseFieldDescriptor (TJx145de k).2.2.1 = some (tyJx145de k) := by decide +kernel
def RJx9f9b0 : String := "java/lang/CharSequence"
def TJx9f9b0 : u_T := fun k => match k with
  | _ => ("", "", "", false)
def tyJx9f9b0 : Nat → FieldType := fun k => match k with
  | _ => .int
abbrev wsJx9f9b00 : List Cond := u_ws RJx9f9b0 TJx9f9b0 0
theorem nmJx9f9b0 : ∀ a, a < 0 → ∀ b, b < 0 → a ≠ b → (TJx9f9b0 a).2.1 ≠ (TJx9f9b0 b).2.1 := by decide +kernel
theorem tyJx9f9b0_ok : ∀ k, k < 0 → parseFieldDescriptor (TJx9f9b0 k).2.2.1 = some (tyJx9f9b0 k) := by decide +kernel
def RJxb160c : String := "java/lang/Comparable"
def TJxb160c : u_T := fun k => match k with
  | _ => ("", "", "", false)
def tyJxb160c : Nat → FieldType := fun k => match k with
  | _ => .int
abbrev wsJxb160c0 : List Cond := u_ws RJxb160c TJxb160c 0
theorem nmJxb160c : ∀ a, a < 0 → ∀ b, b < 0 → a ≠ b → (TJxb160c a).2.1 ≠ (TJxb160c b).2.1 := by decide +kernel
theorem tyJxb160c_ok : ∀ k, k < 0 → parseFieldDescriptor (TJxb160c k).2.2.1 = some (tyJxb160c k) := by decide +kernel
def RJ6 : String := "java/lang/Integer"
def TJ6 : u_T := fun k => match k with
  | _ => ("", "", "", false)
def tyJ6 : Nat → FieldType := fun k => match k with
  | _ => .int
abbrev wsJ60 : List Cond := u_ws RJ6 TJ6 0
theorem nmJ6 : ∀ a, a < 0 → ∀ b, b < 0 → a ≠ b → (TJ6 a).2.1 ≠ (TJ6 b).2.1 := by decide +kernel
theorem tyJ6_ok : ∀ k, k < 0 → parseFieldDescriptor (TJ6 k).2.2.1 = some (tyJ6 k) := by decide +kernel
abbrev cJ6_bitCount_0f7a4 : ByteArray := prog_15_method_49_code
def yJ6_bitCount_0f7a4 : MethodName := ⟨RJ6, "bitCount", "(I)I"⟩
def RJ13 : String := "java/lang/Long"
def TJ13 : u_T := fun k => match k with
  | _ => ("", "", "", false)
def tyJ13 : Nat → FieldType := fun k => match k with
  | _ => .int
abbrev wsJ130 : List Cond := u_ws RJ13 TJ13 0
theorem nmJ13 : ∀ a, a < 0 → ∀ b, b < 0 → a ≠ b → (TJ13 a).2.1 ≠ (TJ13 b).2.1 := by decide +kernel
theorem tyJ13_ok : ∀ k, k < 0 → parseFieldDescriptor (TJ13 k).2.2.1 = some (tyJ13 k) := by decide +kernel
abbrev cJ13_compare_74951 : ByteArray := prog_16_method_42_code
def yJ13_compare_74951 : MethodName := ⟨RJ13, "compare", "(JJ)I"⟩
def RJ9 : String := "java/lang/Math"
def TJ9 : u_T := fun k => match k with
  | _ => ("", "", "", false)
def tyJ9 : Nat → FieldType := fun k => match k with
  | _ => .int
abbrev wsJ90 : List Cond := u_ws RJ9 TJ9 0
theorem nmJ9 : ∀ a, a < 0 → ∀ b, b < 0 → a ≠ b → (TJ9 a).2.1 ≠ (TJ9 b).2.1 := by decide +kernel
theorem tyJ9_ok : ∀ k, k < 0 → parseFieldDescriptor (TJ9 k).2.2.1 = some (tyJ9 k) := by decide +kernel
abbrev cJ9_floorDiv_7cf53 : ByteArray := prog_17_method_47_code
def yJ9_floorDiv_7cf53 : MethodName := ⟨RJ9, "floorDiv", "(II)I"⟩
abbrev cJ9_floorMod_7cf53 : ByteArray := prog_17_method_50_code
def yJ9_floorMod_7cf53 : MethodName := ⟨RJ9, "floorMod", "(II)I"⟩
abbrev cJ9_abs_0f7a4 : ByteArray := prog_17_method_59_code
def yJ9_abs_0f7a4 : MethodName := ⟨RJ9, "abs", "(I)I"⟩
abbrev cJ9_abs_067f4 : ByteArray := prog_17_method_61_code
def yJ9_abs_067f4 : MethodName := ⟨RJ9, "abs", "(J)J"⟩
abbrev cJ9_max_7cf53 : ByteArray := prog_17_method_65_code
def yJ9_max_7cf53 : MethodName := ⟨RJ9, "max", "(II)I"⟩
abbrev cJ9_max_f86c9 : ByteArray := prog_17_method_66_code
def yJ9_max_f86c9 : MethodName := ⟨RJ9, "max", "(JJ)J"⟩
abbrev cJ9_min_7cf53 : ByteArray := prog_17_method_69_code
def yJ9_min_7cf53 : MethodName := ⟨RJ9, "min", "(II)I"⟩
abbrev cJ9_min_f86c9 : ByteArray := prog_17_method_70_code
def yJ9_min_f86c9 : MethodName := ⟨RJ9, "min", "(JJ)J"⟩
def RJ0 : String := "java/lang/String"
def TJ0 : u_T := fun k => match k with
  | _ => ("", "", "", false)
def tyJ0 : Nat → FieldType := fun k => match k with
  | _ => .int
abbrev wsJ00 : List Cond := u_ws RJ0 TJ0 0
theorem nmJ0 : ∀ a, a < 0 → ∀ b, b < 0 → a ≠ b → (TJ0 a).2.1 ≠ (TJ0 b).2.1 := by decide +kernel
theorem tyJ0_ok : ∀ k, k < 0 → parseFieldDescriptor (TJ0 k).2.2.1 = some (tyJ0 k) := by decide +kernel
abbrev cJ0_length_8abf5 : ByteArray := prog_18_method_54_code
def yJ0_length_8abf5 : MethodName := ⟨RJ0, "length", "()I"⟩
abbrev cJ0_charAt_5068e : ByteArray := prog_18_method_56_code
def yJ0_charAt_5068e : MethodName := ⟨RJ0, "charAt", "(I)C"⟩
abbrev cJ0_coder_7d493 : ByteArray := prog_18_method_152_code
def yJ0_coder_7d493 : MethodName := ⟨RJ0, "coder", "()B"⟩
abbrev cJ0_isLatin1_aae02 : ByteArray := prog_18_method_154_code
def yJ0_isLatin1_aae02 : MethodName := ⟨RJ0, "isLatin1", "()Z"⟩
abbrev cJ0_checkIndex_df160 : ByteArray := prog_18_method_155_code
def yJ0_checkIndex_df160 : MethodName := ⟨RJ0, "checkIndex", "(II)V"⟩
def RJ1 : String := "java/lang/StringLatin1"
def TJ1 : u_T := fun k => match k with
  | _ => ("", "", "", false)
def tyJ1 : Nat → FieldType := fun k => match k with
  | _ => .int
abbrev wsJ10 : List Cond := u_ws RJ1 TJ1 0
theorem nmJ1 : ∀ a, a < 0 → ∀ b, b < 0 → a ≠ b → (TJ1 a).2.1 ≠ (TJ1 b).2.1 := by decide +kernel
theorem tyJ1_ok : ∀ k, k < 0 → parseFieldDescriptor (TJ1 k).2.2.1 = some (tyJ1 k) := by decide +kernel
abbrev cJ1_charAt_3b067 : ByteArray := prog_19_method_2_code
def yJ1_charAt_3b067 : MethodName := ⟨RJ1, "charAt", "([BI)C"⟩
def RJ2 : String := "java/lang/StringUTF16"
def TJ2 : u_T := fun k => match k with
  | _ => ("", "", "", false)
def tyJ2 : Nat → FieldType := fun k => match k with
  | _ => .int
abbrev wsJ20 : List Cond := u_ws RJ2 TJ2 0
theorem nmJ2 : ∀ a, a < 0 → ∀ b, b < 0 → a ≠ b → (TJ2 a).2.1 ≠ (TJ2 b).2.1 := by decide +kernel
theorem tyJ2_ok : ∀ k, k < 0 → parseFieldDescriptor (TJ2 k).2.2.1 = some (tyJ2 k) := by decide +kernel
abbrev cJ2_getChar_3b067 : ByteArray := prog_20_method_5_code
def yJ2_getChar_3b067 : MethodName := ⟨RJ2, "getChar", "([BI)C"⟩
abbrev cJ2_length_9d52b : ByteArray := prog_20_method_6_code
def yJ2_length_9d52b : MethodName := ⟨RJ2, "length", "([B)I"⟩
abbrev cJ2_charAt_3b067 : ByteArray := prog_20_method_83_code
def yJ2_charAt_3b067 : MethodName := ⟨RJ2, "charAt", "([BI)C"⟩
abbrev cJ2_checkIndex_2214a : ByteArray := prog_20_method_91_code
def yJ2_checkIndex_2214a : MethodName := ⟨RJ2, "checkIndex", "(I[B)V"⟩
def RJ10 : String := "java/lang/System"
def TJ10 : u_T := fun k => match k with
  | _ => ("", "", "", false)
def tyJ10 : Nat → FieldType := fun k => match k with
  | _ => .int
abbrev wsJ100 : List Cond := u_ws RJ10 TJ10 0
theorem nmJ10 : ∀ a, a < 0 → ∀ b, b < 0 → a ≠ b → (TJ10 a).2.1 ≠ (TJ10 b).2.1 := by decide +kernel
theorem tyJ10_ok : ∀ k, k < 0 → parseFieldDescriptor (TJ10 k).2.2.1 = some (tyJ10 k) := by decide +kernel
def RJxfd54e : String := "java/lang/constant/Constable"
def TJxfd54e : u_T := fun k => match k with
  | _ => ("", "", "", false)
def tyJxfd54e : Nat → FieldType := fun k => match k with
  | _ => .int
abbrev wsJxfd54e0 : List Cond := u_ws RJxfd54e TJxfd54e 0
theorem nmJxfd54e : ∀ a, a < 0 → ∀ b, b < 0 → a ≠ b → (TJxfd54e a).2.1 ≠ (TJxfd54e b).2.1 := by decide +kernel
theorem tyJxfd54e_ok : ∀ k, k < 0 → parseFieldDescriptor (TJxfd54e k).2.2.1 = some (tyJxfd54e k) := by decide +kernel
def RJx3cf43 : String := "java/lang/constant/ConstantDesc"
def TJx3cf43 : u_T := fun k => match k with
  | _ => ("", "", "", false)
def tyJx3cf43 : Nat → FieldType := fun k => match k with
  | _ => .int
abbrev wsJx3cf430 : List Cond := u_ws RJx3cf43 TJx3cf43 0
theorem nmJx3cf43 : ∀ a, a < 0 → ∀ b, b < 0 → a ≠ b → (TJx3cf43 a).2.1 ≠ (TJx3cf43 b).2.1 := by decide +kernel
theorem tyJx3cf43_ok : ∀ k, k < 0 → parseFieldDescriptor (TJx3cf43 k).2.2.1 = some (tyJx3cf43 k) := by decide +kernel
def RJ7 : String := "java/util/Arrays"
def TJ7 : u_T := fun k => match k with
  | _ => ("", "", "", false)
def tyJ7 : Nat → FieldType := fun k => match k with
  | _ => .int
abbrev wsJ70 : List Cond := u_ws RJ7 TJ7 0
theorem nmJ7 : ∀ a, a < 0 → ∀ b, b < 0 → a ≠ b → (TJ7 a).2.1 ≠ (TJ7 b).2.1 := by decide +kernel
theorem tyJ7_ok : ∀ k, k < 0 → parseFieldDescriptor (TJ7 k).2.2.1 = some (tyJ7 k) := by decide +kernel
abbrev cJ7_fill_d0a16 : ByteArray := prog_22_method_101_code
def yJ7_fill_d0a16 : MethodName := ⟨RJ7, "fill", "([JJ)V"⟩
abbrev cJ7_fill_53178 : ByteArray := prog_22_method_103_code
def yJ7_fill_53178 : MethodName := ⟨RJ7, "fill", "([II)V"⟩
def RJ3 : String := "jdk/internal/util/Preconditions"
def TJ3 : u_T := fun k => match k with
  | _ => ("", "", "", false)
def tyJ3 : Nat → FieldType := fun k => match k with
  | _ => .int
abbrev wsJ30 : List Cond := u_ws RJ3 TJ3 0
theorem nmJ3 : ∀ a, a < 0 → ∀ b, b < 0 → a ≠ b → (TJ3 a).2.1 ≠ (TJ3 b).2.1 := by decide +kernel
theorem tyJ3_ok : ∀ k, k < 0 → parseFieldDescriptor (TJ3 k).2.2.1 = some (tyJ3 k) := by decide +kernel
abbrev cJ3_checkIndex_8e157 : ByteArray := prog_23_method_11_code
def yJ3_checkIndex_8e157 : MethodName := ⟨RJ3, "checkIndex", "(IILjava/util/function/BiFunction;)I"⟩
def RL : String := "LuckLinksLaw"
abbrev cL_law : ByteArray := code
def yL_law : MethodName := ⟨RL, "law", "([I)Z"⟩
end
section
/-! the law's words, and that the tables have them, word by word by its place -/
def wsL_law_r1 : List Cond := [Cond.classLink RL 7 RX11, Cond.instantiable RX11 17, Cond.initialized RX11, Cond.classLink RL 10 RX12, Cond.instantiable RX12 75, Cond.initialized RX12, Cond.methodLink RL 9 yX11_init, Cond.instanceMethod yX11_init, Cond.code yX11_init cX11_init 1 none, Cond.methodLink RX11 1 objectInit, Cond.instanceMethod objectInit, Cond.code objectInit ⟨#[0xb1]⟩ 1 none, Cond.classLink RX11 7 RX10, Cond.instantiable RX10 12, Cond.initialized RX10, Cond.fieldLink RX11 10 "LuckLinks" "world" "LLuckLinks$World;", Cond.fieldLink RX11 16 "LuckLinks" "images" "[LLuckLinks$World;", Cond.fieldLink RX11 20 "LuckLinks" "imageCount" "I", Cond.arrayClass .byte, Cond.fieldLink RX11 24 "LuckLinks" "tape" "[B", Cond.fieldLink RX11 28 "LuckLinks" "tapeLength" "I", Cond.classLink RX11 31 RX4, Cond.instantiable RX4 12, Cond.initialized RX4]
def wsL_law_r2 : List Cond := [Cond.fieldLink RX11 34 "LuckLinks" "reader" "LLuckLinks$LawReader;", Cond.classLink RX11 38 RX3, Cond.instantiable RX3 19, Cond.initialized RX3, Cond.fieldLink RX11 41 "LuckLinks" "law" "LLuckLinks$Law;", Cond.fieldLink RX11 45 "LuckLinks" "spare" "LLuckLinks$Law;", Cond.fieldLink RX11 48 "LuckLinks" "faultPlace" "I", Cond.arrayClass .int, Cond.fieldLink RX11 51 "LuckLinks" "refused" "[I", Cond.classLink RX11 55 RX6, Cond.instantiable RX6 2, Cond.initialized RX6, Cond.fieldLink RX11 58 "LuckLinks" "ratio" "LLuckLinks$Ratio;", Cond.classLink RX11 62 RX9, Cond.instantiable RX9 4, Cond.initialized RX9, Cond.fieldLink RX11 67 "LuckLinks" "drawing" "LLuckLinks$WeekDrawing;", Cond.classLink RX11 71 RX7, Cond.instantiable RX7 3, Cond.initialized RX7, Cond.fieldLink RX11 74 "LuckLinks" "standings" "LLuckLinks$Standings;", Cond.classLink RX11 78 RX1, Cond.instantiable RX1 5, Cond.initialized RX1]
def wsL_law_r3 : List Cond := [Cond.fieldLink RX11 81 "LuckLinks" "form" "LLuckLinks$Form;", Cond.classLink RX11 85 RX2, Cond.instantiable RX2 8, Cond.initialized RX2, Cond.fieldLink RX11 88 "LuckLinks" "halves" "LLuckLinks$Halves;", Cond.classLink RX11 92 RX0, Cond.instantiable RX0 9, Cond.initialized RX0, Cond.fieldLink RX11 95 "LuckLinks" "chances" "LLuckLinks$Chances;", Cond.classLink RX11 99 RX8, Cond.instantiable RX8 8, Cond.initialized RX8, Cond.fieldLink RX11 102 "LuckLinks" "tallies" "LLuckLinks$Tallies;", Cond.methodLink RX11 9 yX10_init, Cond.instanceMethod yX10_init, Cond.code yX10_init cX10_init 1 none, Cond.methodLink RX10 3 objectInit, Cond.fieldLink RX10 9 "LuckLinks$World" "players" "I", Cond.fieldLink RX10 15 "LuckLinks$World" "gifts" "[I", Cond.fieldLink RX10 19 "LuckLinks$World" "courses" "I", Cond.fieldLink RX10 22 "LuckLinks$World" "courseStrokes" "[I", Cond.fieldLink RX10 25 "LuckLinks$World" "weekCourse" "[I", Cond.fieldLink RX10 28 "LuckLinks$World" "rounds" "I", Cond.fieldLink RX10 31 "LuckLinks$World" "hours" "[I"]
def wsL_law_r4 : List Cond := [Cond.fieldLink RX10 34 "LuckLinks$World" "values" "[I", Cond.fieldLink RX10 37 "LuckLinks$World" "dayRounds" "[I", Cond.fieldLink RX10 40 "LuckLinks$World" "dayValues" "[I", Cond.fieldLink RX10 43 "LuckLinks$World" "bets" "[I", Cond.fieldLink RX10 46 "LuckLinks$World" "z" "J", Cond.methodLink RX10 50 yJ7_fill_53178, Cond.static yJ7_fill_53178, Cond.initialized RJ7, Cond.code yJ7_fill_53178 cJ7_fill_53178 4 none, Cond.methodLink RX11 33 yX4_init, Cond.instanceMethod yX4_init, Cond.code yX4_init cX4_init 1 none, Cond.methodLink RX4 3 objectInit, Cond.fieldLink RX4 9 "LuckLinks$LawReader" "text" "[B", Cond.classLink RX4 15 RX3, Cond.fieldLink RX4 18 "LuckLinks$LawReader" "law" "LLuckLinks$Law;", Cond.fieldLink RX4 22 "LuckLinks$LawReader" "kinds" "[I", Cond.fieldLink RX4 26 "LuckLinks$LawReader" "starts" "[I", Cond.fieldLink RX4 29 "LuckLinks$LawReader" "ends" "[I", Cond.fieldLink RX4 32 "LuckLinks$LawReader" "at" "I", Cond.fieldLink RX4 36 "LuckLinks$LawReader" "number" "I", Cond.fieldLink RX4 39 "LuckLinks$LawReader" "part" "I", Cond.fieldLink RX4 42 "LuckLinks$LawReader" "waiting" "[I", Cond.fieldLink RX4 45 "LuckLinks$LawReader" "waits" "I"]
def wsL_law_r5 : List Cond := [Cond.fieldLink RX4 48 "LuckLinks$LawReader" "open" "I", Cond.fieldLink RX4 51 "LuckLinks$LawReader" "brackets" "I", Cond.methodLink RX4 17 yX3_init, Cond.instanceMethod yX3_init, Cond.code yX3_init cX3_init 1 none, Cond.methodLink RX3 3 objectInit, Cond.fieldLink RX3 9 "LuckLinks$Law" "rules" "I", Cond.fieldLink RX3 15 "LuckLinks$Law" "drifts" "[I", Cond.fieldLink RX3 19 "LuckLinks$Law" "lucks" "[I", Cond.fieldLink RX3 22 "LuckLinks$Law" "keeps" "[I", Cond.fieldLink RX3 25 "LuckLinks$Law" "prizes" "[I", Cond.fieldLink RX3 28 "LuckLinks$Law" "points" "[I", Cond.fieldLink RX3 31 "LuckLinks$Law" "weights" "[I", Cond.fieldLink RX3 34 "LuckLinks$Law" "weightsByAge" "[I", Cond.fieldLink RX3 37 "LuckLinks$Law" "hourRules" "I", Cond.fieldLink RX3 40 "LuckLinks$Law" "hourParts" "[I", Cond.fieldLink RX3 43 "LuckLinks$Law" "hourStrokes" "[I", Cond.fieldLink RX3 46 "LuckLinks$Law" "hourFroms" "[I", Cond.fieldLink RX3 49 "LuckLinks$Law" "pressRules" "I", Cond.fieldLink RX3 52 "LuckLinks$Law" "pressParts" "[I", Cond.fieldLink RX3 55 "LuckLinks$Law" "pressStrokes" "[I", Cond.fieldLink RX3 58 "LuckLinks$Law" "pressEnds" "[I", Cond.fieldLink RX3 61 "LuckLinks$Law" "code" "[I", Cond.fieldLink RX3 64 "LuckLinks$Law" "codeLength" "I"]
def wsL_law_r6 : List Cond := [Cond.arrayClass .boolean, Cond.fieldLink RX3 67 "LuckLinks$Law" "stack" "[Z", Cond.methodLink RX3 71 yJ7_fill_53178, Cond.methodLink RX11 40 yX3_init, Cond.methodLink RX11 57 yX6_init, Cond.instanceMethod yX6_init, Cond.code yX6_init cX6_init 1 none, Cond.methodLink RX6 1 objectInit, Cond.fieldLink RX6 7 "LuckLinks$Ratio" "upper" "J", Cond.fieldLink RX6 13 "LuckLinks$Ratio" "lower" "J", Cond.methodLink RX11 64 yX9_init, Cond.instanceMethod yX9_init, Cond.code yX9_init cX9_init 2 none, Cond.methodLink RX9 3 objectInit, Cond.classLink RX9 9 RX5, Cond.instantiable RX5 3, Cond.initialized RX5, Cond.fieldLink RX9 12 "LuckLinks$WeekDrawing" "order" "LLuckLinks$Ranking;", Cond.fieldLink RX9 18 "LuckLinks$WeekDrawing" "sums" "LLuckLinks$Ranking;", Cond.fieldLink RX9 21 "LuckLinks$WeekDrawing" "asked" "[I", Cond.fieldLink RX9 25 "LuckLinks$WeekDrawing" "world" "LLuckLinks$World;", Cond.methodLink RX9 11 yX5_init, Cond.instanceMethod yX5_init, Cond.code yX5_init cX5_init 1 none]
def wsL_law_r7 : List Cond := [Cond.methodLink RX5 3 objectInit, Cond.fieldLink RX5 9 "LuckLinks$Ranking" "who" "[I", Cond.fieldLink RX5 15 "LuckLinks$Ranking" "keys" "[I", Cond.fieldLink RX5 18 "LuckLinks$Ranking" "size" "I", Cond.methodLink RX11 73 yX7_init, Cond.instanceMethod yX7_init, Cond.code yX7_init cX7_init 2 none, Cond.methodLink RX7 3 objectInit, Cond.classLink RX7 9 RX5, Cond.fieldLink RX7 12 "LuckLinks$Standings" "ranking" "LLuckLinks$Ranking;", Cond.fieldLink RX7 18 "LuckLinks$Standings" "gains" "[I", Cond.fieldLink RX7 22 "LuckLinks$Standings" "world" "LLuckLinks$World;", Cond.methodLink RX7 11 yX5_init, Cond.methodLink RX11 80 yX1_init, Cond.instanceMethod yX1_init, Cond.code yX1_init cX1_init 2 none, Cond.methodLink RX1 3 objectInit, Cond.arrayClass .long, Cond.fieldLink RX1 9 "LuckLinks$Form" "offs" "[J", Cond.fieldLink RX1 15 "LuckLinks$Form" "many" "[I", Cond.fieldLink RX1 19 "LuckLinks$Form" "upper" "J", Cond.fieldLink RX1 23 "LuckLinks$Form" "lower" "J", Cond.fieldLink RX1 26 "LuckLinks$Form" "world" "LLuckLinks$World;", Cond.methodLink RX11 87 yX2_init]
def wsL_law_r8 : List Cond := [Cond.instanceMethod yX2_init, Cond.code yX2_init cX2_init 2 none, Cond.methodLink RX2 3 objectInit, Cond.fieldLink RX2 9 "LuckLinks$Halves" "firstOffs" "[J", Cond.fieldLink RX2 15 "LuckLinks$Halves" "firstRounds" "[J", Cond.fieldLink RX2 18 "LuckLinks$Halves" "laterOffs" "[J", Cond.fieldLink RX2 21 "LuckLinks$Halves" "laterRounds" "[J", Cond.fieldLink RX2 24 "LuckLinks$Halves" "alike" "I", Cond.fieldLink RX2 28 "LuckLinks$Halves" "unlike" "I", Cond.fieldLink RX2 31 "LuckLinks$Halves" "inBoth" "I", Cond.fieldLink RX2 34 "LuckLinks$Halves" "world" "LLuckLinks$World;", Cond.methodLink RX11 94 yX0_init, Cond.instanceMethod yX0_init, Cond.code yX0_init cX0_init 1 none, Cond.methodLink RX0 5 objectInit, Cond.fieldLink RX0 11 "LuckLinks$Chances" "lot" "[J", Cond.fieldLink RX0 15 "LuckLinks$Chances" "waysSoFar" "[J", Cond.fieldLink RX0 18 "LuckLinks$Chances" "lotFrom" "[J", Cond.fieldLink RX0 21 "LuckLinks$Chances" "step" "[J", Cond.fieldLink RX0 24 "LuckLinks$Chances" "gap" "[J", Cond.fieldLink RX0 27 "LuckLinks$Chances" "nextGap" "[J", Cond.fieldLink RX0 30 "LuckLinks$Chances" "greatestStep" "J", Cond.fieldLink RX0 34 "LuckLinks$Chances" "reach" "I", Cond.fieldLink RX0 38 "LuckLinks$Chances" "strokes" "[I"]
def wsL_law_r9 : List Cond := [Cond.methodLink RX11 101 yX8_init, Cond.instanceMethod yX8_init, Cond.code yX8_init cX8_init 2 none, Cond.methodLink RX8 3 objectInit, Cond.fieldLink RX8 9 "LuckLinks$Tallies" "pressWeeks" "I", Cond.fieldLink RX8 15 "LuckLinks$Tallies" "pressYes" "I", Cond.fieldLink RX8 18 "LuckLinks$Tallies" "otherOne" "I", Cond.fieldLink RX8 21 "LuckLinks$Tallies" "looked" "I", Cond.fieldLink RX8 24 "LuckLinks$Tallies" "otherRows" "J", Cond.fieldLink RX8 28 "LuckLinks$Tallies" "squares" "J", Cond.fieldLink RX8 31 "LuckLinks$Tallies" "couples" "J", Cond.fieldLink RX8 34 "LuckLinks$Tallies" "world" "LLuckLinks$World;", Cond.methodLink RL 12 yX12_init, Cond.instanceMethod yX12_init, Cond.code yX12_init cX12_init 2 none, Cond.methodLink RX12 1 objectInit, Cond.fieldLink RX12 7 "LuckLinksModel" "players" "[I", Cond.fieldLink RX12 13 "LuckLinksModel" "courses" "[I", Cond.fieldLink RX12 16 "LuckLinksModel" "rounds" "[I", Cond.fieldLink RX12 19 "LuckLinksModel" "zs" "[J", Cond.fieldLink RX12 23 "LuckLinksModel" "gifts" "[I", Cond.fieldLink RX12 26 "LuckLinksModel" "courseStrokes" "[I", Cond.fieldLink RX12 29 "LuckLinksModel" "weekCourse" "[I", Cond.fieldLink RX12 32 "LuckLinksModel" "has" "[Z"]
def wsL_law_r10 : List Cond := [Cond.fieldLink RX12 36 "LuckLinksModel" "hasBet" "[Z", Cond.fieldLink RX12 39 "LuckLinksModel" "hours" "[I", Cond.constant RX12 42 (51200), Cond.fieldLink RX12 43 "LuckLinksModel" "strokes" "[I", Cond.fieldLink RX12 46 "LuckLinksModel" "bets" "[I", Cond.fieldLink RX12 49 "LuckLinksModel" "refused" "[I", Cond.fieldLink RX12 52 "LuckLinksModel" "rulesMany" "[I", Cond.fieldLink RX12 55 "LuckLinksModel" "hourMany" "[I", Cond.fieldLink RX12 58 "LuckLinksModel" "pressMany" "[I", Cond.fieldLink RX12 61 "LuckLinksModel" "drifts" "[I", Cond.fieldLink RX12 64 "LuckLinksModel" "lucks" "[I", Cond.fieldLink RX12 67 "LuckLinksModel" "cuts" "[I", Cond.fieldLink RX12 70 "LuckLinksModel" "prizes" "[I", Cond.fieldLink RX12 73 "LuckLinksModel" "points" "[I", Cond.fieldLink RX12 76 "LuckLinksModel" "weights" "[I", Cond.fieldLink RX12 79 "LuckLinksModel" "hasWeight" "[Z", Cond.fieldLink RX12 82 "LuckLinksModel" "hourPart" "[I", Cond.fieldLink RX12 85 "LuckLinksModel" "hourMore" "[I", Cond.fieldLink RX12 88 "LuckLinksModel" "hourFrom" "[I", Cond.fieldLink RX12 91 "LuckLinksModel" "pressPart" "[I", Cond.fieldLink RX12 94 "LuckLinksModel" "pressMore" "[I", Cond.fieldLink RX12 97 "LuckLinksModel" "pressFrom" "[I", Cond.fieldLink RX12 100 "LuckLinksModel" "pressTo" "[I", Cond.fieldLink RX12 103 "LuckLinksModel" "stepKind" "[I"]
def wsL_law_r11 : List Cond := [Cond.fieldLink RX12 106 "LuckLinksModel" "stepWord" "[I", Cond.fieldLink RX12 109 "LuckLinksModel" "stepSign" "[I", Cond.fieldLink RX12 112 "LuckLinksModel" "stepNumber" "[I", Cond.fieldLink RX12 115 "LuckLinksModel" "tape" "[B", Cond.fieldLink RX12 119 "LuckLinksModel" "faultAt" "I", Cond.fieldLink RX12 123 "LuckLinksModel" "opened" "[I", Cond.fieldLink RX12 126 "LuckLinksModel" "joined" "[I", Cond.fieldLink RX12 129 "LuckLinksModel" "asks" "[I", Cond.fieldLink RX12 132 "LuckLinksModel" "pile" "[Z", Cond.fieldLink RX12 135 "LuckLinksModel" "in" "[I", Cond.fieldLink RX12 138 "LuckLinksModel" "sums" "[I", Cond.fieldLink RX12 141 "LuckLinksModel" "ways" "[J", Cond.fieldLink RX12 144 "LuckLinksModel" "waysNext" "[J", Cond.fieldLink RX12 147 "LuckLinksModel" "lot" "[J", Cond.fieldLink RX12 150 "LuckLinksModel" "wholes" "[I", Cond.fieldLink RX12 153 "LuckLinksModel" "apart" "[J", Cond.fieldLink RX12 156 "LuckLinksModel" "apartNext" "[J", Cond.fieldLink RX12 159 "LuckLinksModel" "once" "[J", Cond.fieldLink RX12 162 "LuckLinksModel" "offs" "[J", Cond.fieldLink RX12 165 "LuckLinksModel" "many" "[I", Cond.fieldLink RX12 168 "LuckLinksModel" "amounts" "[I", Cond.methodLink RL 13 yX11_player, Cond.instanceMethod yX11_player, Cond.selects RX11 yX11_player yX11_player]
def wsL_law_r12 : List Cond := [Cond.code yX11_player cX11_player 5 (some .int), Cond.fieldLink RX11 114 "LuckLinks$World" "players" "I", Cond.methodLink RX11 106 yX11_areBetween, Cond.static yX11_areBetween, Cond.code yX11_areBetween cX11_areBetween 6 (some .boolean), Cond.methodLink RX11 131 yX11_isBetween, Cond.static yX11_isBetween, Cond.code yX11_isBetween cX11_isBetween 3 (some .boolean), Cond.methodLink RX11 110 yX11_refuse, Cond.instanceMethod yX11_refuse, Cond.selects RX11 yX11_refuse yX11_refuse, Cond.code yX11_refuse cX11_refuse 2 (some .int), Cond.methodLink RX11 117 yX10_addPlayer, Cond.instanceMethod yX10_addPlayer, Cond.selects RX10 yX10_addPlayer yX10_addPlayer, Cond.code yX10_addPlayer cX10_addPlayer 5 (some .int), Cond.methodLink RX10 62 yX10_putParts, Cond.static yX10_putParts, Cond.code yX10_putParts cX10_putParts 7 none, Cond.methodLink RL 17 yX12_player, Cond.instanceMethod yX12_player, Cond.selects RX12 yX12_player yX12_player, Cond.code yX12_player cX12_player 7 (some .int), Cond.methodLink RX12 182 yX12_within]
def wsL_law_r13 : List Cond := [Cond.static yX12_within, Cond.code yX12_within cX12_within 3 (some .boolean), Cond.methodLink RX12 174 yX12_refuses, Cond.instanceMethod yX12_refuses, Cond.selects RX12 yX12_refuses yX12_refuses, Cond.code yX12_refuses cX12_refuses 2 (some .int), Cond.methodLink RL 18 yX11_course, Cond.instanceMethod yX11_course, Cond.selects RX11 yX11_course yX11_course, Cond.code yX11_course cX11_course 5 (some .int), Cond.fieldLink RX11 121 "LuckLinks$World" "courses" "I", Cond.methodLink RX11 124 yX10_addCourse, Cond.instanceMethod yX10_addCourse, Cond.selects RX10 yX10_addCourse yX10_addCourse, Cond.code yX10_addCourse cX10_addCourse 5 (some .int), Cond.methodLink RL 21 yX12_course, Cond.instanceMethod yX12_course, Cond.selects RX12 yX12_course yX12_course, Cond.code yX12_course cX12_course 7 (some .int), Cond.methodLink RL 22 yX11_week, Cond.instanceMethod yX11_week, Cond.selects RX11 yX11_week yX11_week, Cond.code yX11_week cX11_week 4 (some .boolean), Cond.fieldLink RX11 138 "LuckLinks$World" "weekCourse" "[I"]
def wsL_law_r14 : List Cond := [Cond.methodLink RX11 127 yX11_isWeek, Cond.static yX11_isWeek, Cond.code yX11_isWeek cX11_isWeek 1 (some .boolean), Cond.methodLink RX11 135 yX10_courseOf, Cond.instanceMethod yX10_courseOf, Cond.selects RX10 yX10_courseOf yX10_courseOf, Cond.code yX10_courseOf cX10_courseOf 2 (some .int), Cond.methodLink RL 26 yX12_week, Cond.instanceMethod yX12_week, Cond.selects RX12 yX12_week yX12_week, Cond.code yX12_week cX12_week 3 (some .boolean), Cond.methodLink RX12 190 yX12_isWeek, Cond.static yX12_isWeek, Cond.code yX12_isWeek cX12_isWeek 1 (some .boolean), Cond.methodLink RX12 186 yX12_isNot, Cond.instanceMethod yX12_isNot, Cond.selects RX12 yX12_isNot yX12_isNot, Cond.code yX12_isNot cX12_isNot 1 (some .boolean), Cond.methodLink RL 27 yX11_round, Cond.instanceMethod yX11_round, Cond.selects RX11 yX11_round yX11_round, Cond.code yX11_round cX11_round 5 (some .int), Cond.constant RX11 144 (99999999), Cond.fieldLink RX11 145 "LuckLinks$World" "rounds" "I"]
def wsL_law_r15 : List Cond := [Cond.methodLink RX11 141 yX10_isFree, Cond.instanceMethod yX10_isFree, Cond.selects RX10 yX10_isFree yX10_isFree, Cond.code yX10_isFree cX10_isFree 5 (some .boolean), Cond.methodLink RX10 70 yX10_isPlayer, Cond.instanceMethod yX10_isPlayer, Cond.selects RX10 yX10_isPlayer yX10_isPlayer, Cond.code yX10_isPlayer cX10_isPlayer 2 (some .boolean), Cond.methodLink RX10 82 yX10_courseOf, Cond.methodLink RX10 90 yX10_hasRound, Cond.instanceMethod yX10_hasRound, Cond.selects RX10 yX10_hasRound yX10_hasRound, Cond.code yX10_hasRound cX10_hasRound 5 (some .boolean), Cond.methodLink RX10 96 yX10_slotOf, Cond.static yX10_slotOf, Cond.code yX10_slotOf cX10_slotOf 4 (some .int), Cond.methodLink RX11 148 yX10_addRound, Cond.instanceMethod yX10_addRound, Cond.selects RX10 yX10_addRound yX10_addRound, Cond.code yX10_addRound cX10_addRound 9 (some .int), Cond.methodLink RX10 93 yJ9_floorDiv_7cf53, Cond.static yJ9_floorDiv_7cf53, Cond.initialized RJ9, Cond.code yJ9_floorDiv_7cf53 cJ9_floorDiv_7cf53 3 (some .int)]
def wsL_law_r16 : List Cond := [Cond.methodLink RX10 100 yX10_addValue, Cond.instanceMethod yX10_addValue, Cond.selects RX10 yX10_addValue yX10_addValue, Cond.code yX10_addValue cX10_addValue 5 none, Cond.methodLink RX10 104 yJ9_floorMod_7cf53, Cond.static yJ9_floorMod_7cf53, Cond.code yJ9_floorMod_7cf53 cJ9_floorMod_7cf53 3 (some .int), Cond.methodLink RL 30 yX12_round, Cond.instanceMethod yX12_round, Cond.selects RX12 yX12_round yX12_round, Cond.code yX12_round cX12_round 9 (some .int), Cond.constant RX12 197 (99999999), Cond.methodLink RX12 194 yX12_isPlayer, Cond.instanceMethod yX12_isPlayer, Cond.selects RX12 yX12_isPlayer yX12_isPlayer, Cond.code yX12_isPlayer cX12_isPlayer 2 (some .boolean), Cond.methodLink RX12 198 yX12_slot, Cond.static yX12_slot, Cond.code yX12_slot cX12_slot 3 (some .int), Cond.methodLink RX12 202 yX12_adds, Cond.instanceMethod yX12_adds, Cond.selects RX12 yX12_adds yX12_adds, Cond.code yX12_adds cX12_adds 3 none, Cond.methodLink RL 31 yX11_bet]
def wsL_law_r17 : List Cond := [Cond.instanceMethod yX11_bet, Cond.selects RX11 yX11_bet yX11_bet, Cond.code yX11_bet cX11_bet 4 (some .boolean), Cond.methodLink RX11 151 yX10_isPlayer, Cond.methodLink RX11 154 yX10_putBet, Cond.instanceMethod yX10_putBet, Cond.selects RX10 yX10_putBet yX10_putBet, Cond.code yX10_putBet cX10_putBet 4 none, Cond.methodLink RL 35 yX12_bet, Cond.instanceMethod yX12_bet, Cond.selects RX12 yX12_bet yX12_bet, Cond.code yX12_bet cX12_bet 4 (some .boolean), Cond.methodLink RL 36 yX11_seed, Cond.instanceMethod yX11_seed, Cond.selects RX11 yX11_seed yX11_seed, Cond.code yX11_seed cX11_seed 2 (some .boolean), Cond.constant RX11 158 (999999999), Cond.fieldLink RX11 159 "LuckLinks$World" "z" "J", Cond.methodLink RL 40 yX12_seed, Cond.instanceMethod yX12_seed, Cond.selects RX12 yX12_seed yX12_seed, Cond.code yX12_seed cX12_seed 2 (some .boolean), Cond.constant RX12 205 (999999999), Cond.methodLink RL 41 yX11_feed]
def wsL_law_r18 : List Cond := [Cond.instanceMethod yX11_feed, Cond.selects RX11 yX11_feed yX11_feed, Cond.code yX11_feed cX11_feed 6 (some .int), Cond.methodLink RX11 163 yX11_feedNumber, Cond.instanceMethod yX11_feedNumber, Cond.selects RX11 yX11_feedNumber yX11_feedNumber, Cond.code yX11_feedNumber cX11_feedNumber 3 none, Cond.methodLink RL 45 yX12_feed, Cond.instanceMethod yX12_feed, Cond.selects RX12 yX12_feed yX12_feed, Cond.code yX12_feed cX12_feed 8 (some .int), Cond.fieldLink RX12 206 "LuckLinksModel" "taped" "I", Cond.methodLink RL 46 yX11_law, Cond.instanceMethod yX11_law, Cond.selects RX11 yX11_law yX11_law, Cond.code yX11_law cX11_law 3 (some .int), Cond.fieldLink RX11 171 "LuckLinks$Law" "rules" "I", Cond.methodLink RX11 167 yX4_readLaw, Cond.instanceMethod yX4_readLaw, Cond.selects RX4 yX4_readLaw yX4_readLaw, Cond.code yX4_readLaw cX4_readLaw 5 (some .int), Cond.methodLink RX4 57 Lib.Math.min.name, Cond.static Lib.Math.min.name, Cond.initialized "java/lang/Math"]
def wsL_law_r19 : List Cond := [Cond.code Lib.Math.min.name Lib.Math.min.code 2 (some .int), Cond.fieldLink RX4 78 "LuckLinks$Law" "rules" "I", Cond.methodLink RX4 54 yX3_clear, Cond.instanceMethod yX3_clear, Cond.selects RX3 yX3_clear yX3_clear, Cond.code yX3_clear cX3_clear 1 none, Cond.methodLink RX4 63 yX4_split, Cond.instanceMethod yX4_split, Cond.selects RX4 yX4_split yX4_split, Cond.code yX4_split cX4_split 6 none, Cond.methodLink RX4 81 yX4_kindOf, Cond.static yX4_kindOf, Cond.code yX4_kindOf cX4_kindOf 1 (some .int), Cond.methodLink RX4 67 yX3_spreadWeights, Cond.instanceMethod yX3_spreadWeights, Cond.selects RX3 yX3_spreadWeights yX3_spreadWeights, Cond.code yX3_spreadWeights cX3_spreadWeights 3 none, Cond.methodLink RX4 70 yX4_readRule, Cond.instanceMethod yX4_readRule, Cond.selects RX4 yX4_readRule yX4_readRule, Cond.code yX4_readRule cX4_readRule 1 (some .boolean), Cond.fieldLink RX4 94 "LuckLinks$Law" "drifts" "[I", Cond.fieldLink RX4 103 "LuckLinks$Law" "lucks" "[I", Cond.fieldLink RX4 122 "LuckLinks$Law" "keeps" "[I"]
def wsL_law_r20 : List Cond := [Cond.fieldLink RX4 131 "LuckLinks$Law" "prizes" "[I", Cond.fieldLink RX4 136 "LuckLinks$Law" "points" "[I", Cond.fieldLink RX4 140 "LuckLinks$Law" "weights" "[I", Cond.methodLink RX4 87 yX4_takeWord, Cond.instanceMethod yX4_takeWord, Cond.selects RX4 yX4_takeWord yX4_takeWord, Cond.code yX4_takeWord cX4_takeWord 4 (some .boolean), Cond.methodLink RX4 216 yJ0_length_8abf5, Cond.instanceMethod yJ0_length_8abf5, Cond.selects RJ0 yJ0_length_8abf5 yJ0_length_8abf5, Cond.initialized RJ0, Cond.code yJ0_length_8abf5 cJ0_length_8abf5 1 (some .int), Cond.fieldLink RJ0 9 "java/lang/String" "value" "[B", Cond.methodLink RJ0 335 yJ0_coder_7d493, Cond.instanceMethod yJ0_coder_7d493, Cond.selects RJ0 yJ0_coder_7d493 yJ0_coder_7d493, Cond.code yJ0_coder_7d493 cJ0_coder_7d493 1 (some .byte), Cond.fieldLink RJ0 38 "java/lang/String" "COMPACT_STRINGS" "Z", Cond.fieldLink RJ0 15 "java/lang/String" "coder" "B", Cond.methodLink RX4 221 yJ0_charAt_5068e, Cond.instanceMethod yJ0_charAt_5068e, Cond.selects RJ0 yJ0_charAt_5068e yJ0_charAt_5068e, Cond.code yJ0_charAt_5068e cJ0_charAt_5068e 2 (some .char), Cond.methodLink RJ0 492 yJ0_isLatin1_aae02]
def wsL_law_r21 : List Cond := [Cond.instanceMethod yJ0_isLatin1_aae02, Cond.selects RJ0 yJ0_isLatin1_aae02 yJ0_isLatin1_aae02, Cond.code yJ0_isLatin1_aae02 cJ0_isLatin1_aae02 1 (some .boolean), Cond.methodLink RJ0 495 yJ1_charAt_3b067, Cond.static yJ1_charAt_3b067, Cond.initialized RJ1, Cond.code yJ1_charAt_3b067 cJ1_charAt_3b067 2 (some .char), Cond.methodLink RJ1 9 yJ0_checkIndex_df160, Cond.static yJ0_checkIndex_df160, Cond.code yJ0_checkIndex_df160 cJ0_checkIndex_df160 2 none, Cond.fieldLink RJ0 1053 "jdk/internal/util/Preconditions" "SIOOBE_FORMATTER" "Ljava/util/function/BiFunction;", Cond.methodLink RJ0 1059 yJ3_checkIndex_8e157, Cond.static yJ3_checkIndex_8e157, Cond.initialized RJ3, Cond.code yJ3_checkIndex_8e157 cJ3_checkIndex_8e157 3 (some .int), Cond.methodLink RJ0 498 yJ2_charAt_3b067, Cond.static yJ2_charAt_3b067, Cond.initialized RJ2, Cond.code yJ2_charAt_3b067 cJ2_charAt_3b067 2 (some .char), Cond.methodLink RJ2 67 yJ2_checkIndex_2214a, Cond.static yJ2_checkIndex_2214a, Cond.code yJ2_checkIndex_2214a cJ2_checkIndex_2214a 2 none, Cond.methodLink RJ2 48 yJ2_length_9d52b, Cond.static yJ2_length_9d52b]
def wsL_law_r22 : List Cond := [Cond.code yJ2_length_9d52b cJ2_length_9d52b 1 (some .int), Cond.methodLink RJ2 414 yJ0_checkIndex_df160, Cond.methodLink RJ2 71 yJ2_getChar_3b067, Cond.static yJ2_getChar_3b067, Cond.code yJ2_getChar_3b067 cJ2_getChar_3b067 2 (some .char), Cond.fieldLink RJ2 44 "java/lang/StringUTF16" "$assertionsDisabled" "Z", Cond.fieldLink RJ2 59 "java/lang/StringUTF16" "HI_BYTE_SHIFT" "I", Cond.fieldLink RJ2 63 "java/lang/StringUTF16" "LO_BYTE_SHIFT" "I", Cond.methodLink RX4 224 yX4_step, Cond.instanceMethod yX4_step, Cond.selects RX4 yX4_step yX4_step, Cond.code yX4_step cX4_step 1 none, Cond.methodLink RX4 91 yX4_takePart, Cond.instanceMethod yX4_takePart, Cond.selects RX4 yX4_takePart yX4_takePart, Cond.code yX4_takePart cX4_takePart 2 (some .boolean), Cond.methodLink RX4 213 yX4_partAt, Cond.static yX4_partAt, Cond.code yX4_partAt cX4_partAt 1 (some (.object "java/lang/String")), Cond.methodLink RX4 97 yX4_readAmount, Cond.instanceMethod yX4_readAmount, Cond.selects RX4 yX4_readAmount yX4_readAmount, Cond.code yX4_readAmount cX4_readAmount 2 (some .boolean), Cond.methodLink RX4 125 yX4_readEntry]
def wsL_law_r23 : List Cond := [Cond.instanceMethod yX4_readEntry, Cond.selects RX4 yX4_readEntry yX4_readEntry, Cond.code yX4_readEntry cX4_readEntry 5 (some .boolean), Cond.methodLink RX4 118 yX4_takeNumber, Cond.instanceMethod yX4_takeNumber, Cond.selects RX4 yX4_takeNumber yX4_takeNumber, Cond.code yX4_takeNumber cX4_takeNumber 5 (some .boolean), Cond.methodLink RX4 108 yX4_readHour, Cond.instanceMethod yX4_readHour, Cond.selects RX4 yX4_readHour yX4_readHour, Cond.code yX4_readHour cX4_readHour 2 (some .boolean), Cond.methodLink RX4 145 yX3_addHour, Cond.instanceMethod yX3_addHour, Cond.selects RX3 yX3_addHour yX3_addHour, Cond.code yX3_addHour cX3_addHour 4 none, Cond.methodLink RX4 113 yX4_readPress, Cond.instanceMethod yX4_readPress, Cond.selects RX4 yX4_readPress yX4_readPress, Cond.code yX4_readPress cX4_readPress 3 (some .boolean), Cond.methodLink RX4 155 yX4_readAny, Cond.instanceMethod yX4_readAny, Cond.selects RX4 yX4_readAny yX4_readAny, Cond.code yX4_readAny cX4_readAny 3 (some .boolean), Cond.methodLink RX4 164 yX4_await]
def wsL_law_r24 : List Cond := [Cond.instanceMethod yX4_await, Cond.selects RX4 yX4_await yX4_await, Cond.code yX4_await cX4_await 2 none, Cond.methodLink RX4 74 yX4_takeSign, Cond.instanceMethod yX4_takeSign, Cond.selects RX4 yX4_takeSign yX4_takeSign, Cond.code yX4_takeSign cX4_takeSign 2 (some .boolean), Cond.methodLink RX4 167 yX4_readComparison, Cond.instanceMethod yX4_readComparison, Cond.selects RX4 yX4_readComparison yX4_readComparison, Cond.code yX4_readComparison cX4_readComparison 3 (some .boolean), Cond.methodLink RX4 187 yX4_wordAt, Cond.static yX4_wordAt, Cond.code yX4_wordAt cX4_wordAt 1 (some (.object "java/lang/String")), Cond.methodLink RX4 191 yX4_signAt, Cond.static yX4_signAt, Cond.code yX4_signAt cX4_signAt 1 (some .char), Cond.methodLink RX4 180 yX3_emit, Cond.instanceMethod yX3_emit, Cond.selects RX3 yX3_emit yX3_emit, Cond.code yX3_emit cX3_emit 2 none, Cond.methodLink RX4 170 yX4_endOne, Cond.instanceMethod yX4_endOne, Cond.selects RX4 yX4_endOne yX4_endOne]
def wsL_law_r25 : List Cond := [Cond.code yX4_endOne cX4_endOne 1 none, Cond.methodLink RX4 177 yX4_emitDownTo, Cond.instanceMethod yX4_emitDownTo, Cond.selects RX4 yX4_emitDownTo yX4_emitDownTo, Cond.code yX4_emitDownTo cX4_emitDownTo 2 none, Cond.methodLink RX4 173 yX4_takeJoin, Cond.instanceMethod yX4_takeJoin, Cond.selects RX4 yX4_takeJoin yX4_takeJoin, Cond.code yX4_takeJoin cX4_takeJoin 1 (some .int), Cond.methodLink RX4 158 yX3_addPress, Cond.instanceMethod yX3_addPress, Cond.selects RX3 yX3_addPress yX3_addPress, Cond.code yX3_addPress cX3_addPress 3 none, Cond.methodLink RL 50 yX12_law, Cond.instanceMethod yX12_law, Cond.selects RX12 yX12_law yX12_law, Cond.code yX12_law cX12_law 2 (some .int), Cond.fieldLink RX12 212 "LuckLinksModel" "limit" "I", Cond.fieldLink RX12 209 "LuckLinksModel" "point" "I", Cond.fieldLink RX12 237 "LuckLinksModel" "isWrong" "Z", Cond.fieldLink RX12 285 "LuckLinksModel" "written" "I", Cond.fieldLink RX12 231 "LuckLinksModel" "token" "I", Cond.methodLink RX12 337 yX12_clears, Cond.instanceMethod yX12_clears]
def wsL_law_r26 : List Cond := [Cond.selects RX12 yX12_clears yX12_clears, Cond.code yX12_clears cX12_clears 2 none, Cond.methodLink RX12 244 yX12_next, Cond.instanceMethod yX12_next, Cond.selects RX12 yX12_next yX12_next, Cond.code yX12_next cX12_next 2 none, Cond.fieldLink RX12 219 "LuckLinksModel" "from" "I", Cond.constantLong RX12 222 (-1), Cond.fieldLink RX12 224 "LuckLinksModel" "text" "J", Cond.fieldLink RX12 228 "LuckLinksModel" "value" "I", Cond.constantLong RX12 234 (27), Cond.constant RX12 236 (1000000), Cond.methodLink RX12 215 yX12_here, Cond.instanceMethod yX12_here, Cond.selects RX12 yX12_here yX12_here, Cond.code yX12_here cX12_here 1 (some .int), Cond.methodLink RX12 340 yX12_readRule, Cond.instanceMethod yX12_readRule, Cond.selects RX12 yX12_readRule yX12_readRule, Cond.code yX12_readRule cX12_readRule 4 none, Cond.methodLink RX12 328 yX12_ruleHere, Cond.instanceMethod yX12_ruleHere, Cond.selects RX12 yX12_ruleHere yX12_ruleHere, Cond.code yX12_ruleHere cX12_ruleHere 1 (some .int)]
def wsL_law_r27 : List Cond := [Cond.constantLong RX12 247 (2486801), Cond.constantLong RX12 249 (251597), Cond.constantLong RX12 251 (168984), Cond.constantLong RX12 253 (8861527), Cond.constantLong RX12 255 (2774), Cond.constantLong RX12 257 (8864618), Cond.constantLong RX12 259 (237742039), Cond.constantLong RX12 261 (12328316), Cond.methodLink RX12 241 yX12_errs, Cond.instanceMethod yX12_errs, Cond.selects RX12 yX12_errs yX12_errs, Cond.code yX12_errs cX12_errs 1 none, Cond.methodLink RX12 314 yX12_partHere, Cond.instanceMethod yX12_partHere, Cond.selects RX12 yX12_partHere yX12_partHere, Cond.code yX12_partHere cX12_partHere 2 (some .int), Cond.constantLong RX12 263 (14720), Cond.constantLong RX12 269 (247516), Cond.constantLong RX12 271 (10266284), Cond.constantLong RX12 273 (237458), Cond.methodLink RX12 265 yX12_is, Cond.instanceMethod yX12_is, Cond.selects RX12 yX12_is yX12_is, Cond.code yX12_is cX12_is 3 (some .boolean)]
def wsL_law_r28 : List Cond := [Cond.methodLink RX12 291 yX12_numeral, Cond.instanceMethod yX12_numeral, Cond.selects RX12 yX12_numeral yX12_numeral, Cond.code yX12_numeral cX12_numeral 4 (some .int), Cond.methodLink RX12 331 yX12_readHour, Cond.instanceMethod yX12_readHour, Cond.selects RX12 yX12_readHour yX12_readHour, Cond.code yX12_readHour cX12_readHour 2 none, Cond.constantLong RX12 317 (131638), Cond.methodLink RX12 334 yX12_readPress, Cond.instanceMethod yX12_readPress, Cond.selects RX12 yX12_readPress yX12_readPress, Cond.code yX12_readPress cX12_readPress 4 none, Cond.constantLong RX12 319 (267305), Cond.constantLong RX12 321 (240373), Cond.constantLong RX12 323 (249), Cond.methodLink RX12 325 yX12_readCondition, Cond.instanceMethod yX12_readCondition, Cond.selects RX12 yX12_readCondition yX12_readCondition, Cond.code yX12_readCondition cX12_readCondition 3 none, Cond.fieldLink RX12 299 "LuckLinksModel" "opens" "I", Cond.constantLong RX12 306 (10631), Cond.methodLink RX12 308 yX12_readTest, Cond.instanceMethod yX12_readTest]
def wsL_law_r29 : List Cond := [Cond.selects RX12 yX12_readTest yX12_readTest, Cond.code yX12_readTest cX12_readTest 4 none, Cond.methodLink RX12 288 yX12_wordHere, Cond.instanceMethod yX12_wordHere, Cond.selects RX12 yX12_wordHere yX12_wordHere, Cond.code yX12_wordHere cX12_wordHere 1 (some .int), Cond.constantLong RX12 275 (2968), Cond.constantLong RX12 277 (456500), Cond.constantLong RX12 279 (51445319), Cond.constantLong RX12 281 (31519426), Cond.constantLong RX12 283 (8328978), Cond.methodLink RX12 295 yX12_step, Cond.instanceMethod yX12_step, Cond.selects RX12 yX12_step yX12_step, Cond.code yX12_step cX12_step 5 none, Cond.methodLink RX12 311 yX12_closes, Cond.instanceMethod yX12_closes, Cond.selects RX12 yX12_closes yX12_closes, Cond.code yX12_closes cX12_closes 2 (some .boolean), Cond.constantLong RX12 302 (1111), Cond.constantLong RX12 304 (423), Cond.methodLink RX12 343 yX12_takes, Cond.instanceMethod yX12_takes, Cond.selects RX12 yX12_takes yX12_takes]
def wsL_law_r30 : List Cond := [Cond.code yX12_takes cX12_takes 2 none, Cond.methodLink RL 51 yX11_fault, Cond.instanceMethod yX11_fault, Cond.selects RX11 yX11_fault yX11_fault, Cond.code yX11_fault cX11_fault 1 (some .int), Cond.methodLink RL 55 yX12_fault, Cond.instanceMethod yX12_fault, Cond.selects RX12 yX12_fault yX12_fault, Cond.code yX12_fault cX12_fault 1 (some .int), Cond.methodLink RL 56 yX11_rule, Cond.instanceMethod yX11_rule, Cond.selects RX11 yX11_rule yX11_rule, Cond.code yX11_rule cX11_rule 2 (some .int), Cond.fieldLink RX11 174 "LuckLinks$Law" "drifts" "[I", Cond.fieldLink RX11 177 "LuckLinks$Law" "lucks" "[I", Cond.fieldLink RX11 180 "LuckLinks$Law" "keeps" "[I", Cond.fieldLink RX11 183 "LuckLinks$Law" "prizes" "[I", Cond.fieldLink RX11 186 "LuckLinks$Law" "points" "[I", Cond.methodLink RX11 189 yX3_weightOf, Cond.instanceMethod yX3_weightOf, Cond.selects RX3 yX3_weightOf yX3_weightOf, Cond.code yX3_weightOf cX3_weightOf 2 (some .int), Cond.methodLink RL 59 yX12_rule, Cond.instanceMethod yX12_rule]
def wsL_law_r31 : List Cond := [Cond.selects RX12 yX12_rule yX12_rule, Cond.code yX12_rule cX12_rule 2 (some .int), Cond.methodLink RX12 346 yX12_weightOf, Cond.instanceMethod yX12_weightOf, Cond.selects RX12 yX12_weightOf yX12_weightOf, Cond.code yX12_weightOf cX12_weightOf 3 (some .int), Cond.methodLink RL 60 yX11_run, Cond.instanceMethod yX11_run, Cond.selects RX11 yX11_run yX11_run, Cond.code yX11_run cX11_run 3 (some .int), Cond.methodLink RX11 192 yX10_roundsOn, Cond.instanceMethod yX10_roundsOn, Cond.selects RX10 yX10_roundsOn yX10_roundsOn, Cond.code yX10_roundsOn cX10_roundsOn 4 (some .int), Cond.methodLink RX11 196 yX10_isField, Cond.instanceMethod yX10_isField, Cond.selects RX10 yX10_isField yX10_isField, Cond.code yX10_isField cX10_isField 2 (some .boolean), Cond.methodLink RX11 199 yJ6_bitCount_0f7a4, Cond.static yJ6_bitCount_0f7a4, Cond.initialized RJ6, Cond.code yJ6_bitCount_0f7a4 cJ6_bitCount_0f7a4 1 (some .int), Cond.constant RJ6 265 (1431655765), Cond.constant RJ6 266 (858993459)]
def wsL_law_r32 : List Cond := [Cond.constant RJ6 267 (252645135), Cond.methodLink RX11 204 yX9_drawWeek, Cond.instanceMethod yX9_drawWeek, Cond.selects RX9 yX9_drawWeek yX9_drawWeek, Cond.code yX9_drawWeek cX9_drawWeek 7 (some .int), Cond.fieldLink RX9 29 "LuckLinks$World" "rounds" "I", Cond.fieldLink RX9 35 "LuckLinks$World" "players" "I", Cond.fieldLink RX9 46 "LuckLinks$Law" "keeps" "[I", Cond.methodLink RX9 38 yX9_drift, Cond.instanceMethod yX9_drift, Cond.selects RX9 yX9_drift yX9_drift, Cond.code yX9_drift cX9_drift 4 none, Cond.fieldLink RX9 59 "LuckLinks$Law" "drifts" "[I", Cond.methodLink RX9 55 yX10_giftOf, Cond.instanceMethod yX10_giftOf, Cond.selects RX10 yX10_giftOf yX10_giftOf, Cond.code yX10_giftOf cX10_giftOf 3 (some .int), Cond.methodLink RX9 62 yX9_draw, Cond.instanceMethod yX9_draw, Cond.selects RX9 yX9_draw yX9_draw, Cond.code yX9_draw cX9_draw 5 (some .int), Cond.fieldLink RX9 125 "LuckLinks$World" "z" "J", Cond.constantLong RX9 129 (6364136223846793005), Cond.constantLong RX9 131 (1442695040888963407)]
def wsL_law_r33 : List Cond := [Cond.methodLink RX9 66 yX10_putGift, Cond.instanceMethod yX10_putGift, Cond.selects RX10 yX10_putGift yX10_putGift, Cond.code yX10_putGift cX10_putGift 4 none, Cond.methodLink RX10 73 Lib.Math.min.name, Cond.methodLink RX10 79 Lib.Math.max.name, Cond.static Lib.Math.max.name, Cond.code Lib.Math.max.name Lib.Math.max.code 2 (some .int), Cond.methodLink RX9 42 yX9_drawDay, Cond.instanceMethod yX9_drawDay, Cond.selects RX9 yX9_drawDay yX9_drawDay, Cond.code yX9_drawDay cX9_drawDay 8 none, Cond.methodLink RX9 70 yX5_clear, Cond.instanceMethod yX5_clear, Cond.selects RX5 yX5_clear yX5_clear, Cond.code yX5_clear cX5_clear 1 none, Cond.methodLink RX9 73 yX10_sumOf, Cond.instanceMethod yX10_sumOf, Cond.selects RX10 yX10_sumOf yX10_sumOf, Cond.code yX10_sumOf cX10_sumOf 7 (some .int), Cond.methodLink RX9 77 yX5_add, Cond.instanceMethod yX5_add, Cond.selects RX5 yX5_add yX5_add, Cond.code yX5_add cX5_add 4 none]
def wsL_law_r34 : List Cond := [Cond.methodLink RX9 81 yX5_size, Cond.instanceMethod yX5_size, Cond.selects RX5 yX5_size yX5_size, Cond.code yX5_size cX5_size 1 (some .int), Cond.methodLink RX9 85 yX5_keyAt, Cond.instanceMethod yX5_keyAt, Cond.selects RX5 yX5_keyAt yX5_keyAt, Cond.code yX5_keyAt cX5_keyAt 2 (some .int), Cond.methodLink RX9 88 yX10_courseOf, Cond.methodLink RX9 91 yX5_whoAt, Cond.instanceMethod yX5_whoAt, Cond.selects RX5 yX5_whoAt yX5_whoAt, Cond.code yX5_whoAt cX5_whoAt 2 (some .int), Cond.methodLink RX9 94 yX9_drawStrokes, Cond.instanceMethod yX9_drawStrokes, Cond.selects RX9 yX9_drawStrokes yX9_drawStrokes, Cond.code yX9_drawStrokes cX9_drawStrokes 7 (some .int), Cond.fieldLink RX9 111 "LuckLinks$Law" "lucks" "[I", Cond.methodLink RX9 114 Lib.Math.min.name, Cond.methodLink RX9 119 Lib.Math.max.name, Cond.methodLink RX9 101 yX10_strokesOf, Cond.instanceMethod yX10_strokesOf, Cond.selects RX10 yX10_strokesOf yX10_strokesOf, Cond.code yX10_strokesOf cX10_strokesOf 4 (some .int)]
def wsL_law_r35 : List Cond := [Cond.methodLink RX9 104 yX3_strokesByHour, Cond.instanceMethod yX3_strokesByHour, Cond.selects RX3 yX3_strokesByHour yX3_strokesByHour, Cond.code yX3_strokesByHour cX3_strokesByHour 5 (some .int), Cond.methodLink RX9 107 yX3_strokesByPress, Cond.instanceMethod yX3_strokesByPress, Cond.selects RX3 yX3_strokesByPress yX3_strokesByPress, Cond.code yX3_strokesByPress cX3_strokesByPress 6 (some .int), Cond.methodLink RX3 77 yX3_holds, Cond.instanceMethod yX3_holds, Cond.selects RX3 yX3_holds yX3_holds, Cond.code yX3_holds cX3_holds 7 (some .boolean), Cond.methodLink RX3 81 yX3_compares, Cond.static yX3_compares, Cond.code yX3_compares cX3_compares 6 (some .boolean), Cond.methodLink RX9 98 yX10_addRound, Cond.methodLink RX9 51 yX9_goOn, Cond.instanceMethod yX9_goOn, Cond.selects RX9 yX9_goOn yX9_goOn, Cond.code yX9_goOn cX9_goOn 7 (some .int), Cond.methodLink RX9 122 yX5_lesserThan, Cond.instanceMethod yX5_lesserThan, Cond.selects RX5 yX5_lesserThan yX5_lesserThan, Cond.code yX5_lesserThan cX5_lesserThan 3 (some .int)]
def wsL_law_r36 : List Cond := [Cond.methodLink RL 64 yX12_run, Cond.instanceMethod yX12_run, Cond.selects RX12 yX12_run yX12_run, Cond.code yX12_run cX12_run 9 (some .int), Cond.fieldLink RX12 353 "LuckLinksModel" "inMany" "I", Cond.methodLink RX12 378 yX12_bitsOf, Cond.static yX12_bitsOf, Cond.code yX12_bitsOf cX12_bitsOf 3 (some .int), Cond.methodLink RX12 359 yX12_draw, Cond.instanceMethod yX12_draw, Cond.selects RX12 yX12_draw yX12_draw, Cond.code yX12_draw cX12_draw 2 (some .int), Cond.constantLong RX12 349 (6364136223846793005), Cond.constantLong RX12 351 (1442695040888963407), Cond.methodLink RX12 362 yX12_held, Cond.static yX12_held, Cond.code yX12_held cX12_held 3 (some .int), Cond.methodLink RX12 381 yX12_drawDay, Cond.instanceMethod yX12_drawDay, Cond.selects RX12 yX12_drawDay yX12_drawDay, Cond.code yX12_drawDay cX12_drawDay 8 none, Cond.methodLink RX12 365 yX12_putInOrder, Cond.instanceMethod yX12_putInOrder, Cond.selects RX12 yX12_putInOrder yX12_putInOrder]
def wsL_law_r37 : List Cond := [Cond.code yX12_putInOrder cX12_putInOrder 4 none, Cond.methodLink RX12 368 yX12_leastSum, Cond.instanceMethod yX12_leastSum, Cond.selects RX12 yX12_leastSum yX12_leastSum, Cond.code yX12_leastSum cX12_leastSum 3 (some .int), Cond.methodLink RX12 371 yX12_strokeOf, Cond.instanceMethod yX12_strokeOf, Cond.selects RX12 yX12_strokeOf yX12_strokeOf, Cond.code yX12_strokeOf cX12_strokeOf 7 (some .int), Cond.methodLink RX12 356 yX12_holds, Cond.instanceMethod yX12_holds, Cond.selects RX12 yX12_holds yX12_holds, Cond.code yX12_holds cX12_holds 5 (some .boolean), Cond.methodLink RX12 375 yX12_valueAt, Cond.instanceMethod yX12_valueAt, Cond.selects RX12 yX12_valueAt yX12_valueAt, Cond.code yX12_valueAt cX12_valueAt 3 (some .int), Cond.methodLink RX12 384 yX12_lineAt, Cond.instanceMethod yX12_lineAt, Cond.selects RX12 yX12_lineAt yX12_lineAt, Cond.code yX12_lineAt cX12_lineAt 6 (some .int), Cond.methodLink RL 65 yX11_gift, Cond.instanceMethod yX11_gift, Cond.selects RX11 yX11_gift yX11_gift]
def wsL_law_r38 : List Cond := [Cond.code yX11_gift cX11_gift 3 (some .int), Cond.methodLink RX11 208 yX10_giftOf, Cond.methodLink RL 68 yX12_gift, Cond.instanceMethod yX12_gift, Cond.selects RX12 yX12_gift yX12_gift, Cond.code yX12_gift cX12_gift 3 (some .int), Cond.methodLink RL 69 yX11_score, Cond.instanceMethod yX11_score, Cond.selects RX11 yX11_score yX11_score, Cond.code yX11_score cX11_score 5 (some .int), Cond.methodLink RX11 211 yX10_hasRound, Cond.methodLink RX11 214 yX10_hourOf, Cond.instanceMethod yX10_hourOf, Cond.selects RX10 yX10_hourOf yX10_hourOf, Cond.code yX10_hourOf cX10_hourOf 5 (some .int), Cond.methodLink RX11 218 yX11_isPart, Cond.static yX11_isPart, Cond.code yX11_isPart cX11_isPart 1 (some .boolean), Cond.methodLink RX11 221 yX10_valueOf, Cond.instanceMethod yX10_valueOf, Cond.selects RX10 yX10_valueOf yX10_valueOf, Cond.code yX10_valueOf cX10_valueOf 8 (some .int), Cond.methodLink RL 72 yX12_score, Cond.instanceMethod yX12_score]
def wsL_law_r39 : List Cond := [Cond.selects RX12 yX12_score yX12_score, Cond.code yX12_score cX12_score 6 (some .int), Cond.methodLink RX12 387 yX12_partOf, Cond.static yX12_partOf, Cond.code yX12_partOf cX12_partOf 1 (some .int), Cond.methodLink RL 73 yX11_place, Cond.instanceMethod yX11_place, Cond.selects RX11 yX11_place yX11_place, Cond.code yX11_place cX11_place 3 (some .int), Cond.methodLink RX11 224 yX7_placeOf, Cond.instanceMethod yX7_placeOf, Cond.selects RX7 yX7_placeOf yX7_placeOf, Cond.code yX7_placeOf cX7_placeOf 4 (some .int), Cond.methodLink RX7 51 yX7_lastDayOf, Cond.instanceMethod yX7_lastDayOf, Cond.selects RX7 yX7_lastDayOf yX7_lastDayOf, Cond.code yX7_lastDayOf cX7_lastDayOf 4 (some .int), Cond.methodLink RX7 26 yX10_roundsOn, Cond.methodLink RX7 39 yX10_hasRound, Cond.methodLink RX7 55 yX7_rankBySums, Cond.instanceMethod yX7_rankBySums, Cond.selects RX7 yX7_rankBySums yX7_rankBySums, Cond.code yX7_rankBySums cX7_rankBySums 4 none, Cond.fieldLink RX7 35 "LuckLinks$World" "players" "I"]
def wsL_law_r40 : List Cond := [Cond.methodLink RX7 32 yX5_clear, Cond.methodLink RX7 43 yX10_sumOf, Cond.methodLink RX7 47 yX5_add, Cond.methodLink RX7 58 yX5_lesserThan, Cond.methodLink RL 76 yX12_place, Cond.instanceMethod yX12_place, Cond.selects RX12 yX12_place yX12_place, Cond.code yX12_place cX12_place 3 (some .int), Cond.methodLink RX12 405 yX12_placeOf, Cond.instanceMethod yX12_placeOf, Cond.selects RX12 yX12_placeOf yX12_placeOf, Cond.code yX12_placeOf cX12_placeOf 7 (some .int), Cond.methodLink RX12 402 yX12_wholeSum, Cond.instanceMethod yX12_wholeSum, Cond.selects RX12 yX12_wholeSum yX12_wholeSum, Cond.code yX12_wholeSum cX12_wholeSum 6 (some .int), Cond.fieldLink RX12 390 "LuckLinksModel" "dayMany" "I", Cond.methodLink RX12 396 yX12_countDay, Cond.instanceMethod yX12_countDay, Cond.selects RX12 yX12_countDay yX12_countDay, Cond.code yX12_countDay cX12_countDay 5 none, Cond.fieldLink RX12 393 "LuckLinksModel" "daySum" "I", Cond.methodLink RL 77 yX11_won, Cond.instanceMethod yX11_won]
def wsL_law_r41 : List Cond := [Cond.selects RX11 yX11_won yX11_won, Cond.code yX11_won cX11_won 5 (some .int), Cond.methodLink RX11 227 yX11_areWeeks, Cond.static yX11_areWeeks, Cond.code yX11_areWeeks cX11_areWeeks 2 (some .boolean), Cond.methodLink RX11 231 yX7_shareIn, Cond.instanceMethod yX7_shareIn, Cond.selects RX7 yX7_shareIn yX7_shareIn, Cond.code yX7_shareIn cX7_shareIn 6 (some .int), Cond.methodLink RX7 61 yJ7_fill_53178, Cond.methodLink RX7 67 yX7_addShares, Cond.instanceMethod yX7_addShares, Cond.selects RX7 yX7_addShares yX7_addShares, Cond.code yX7_addShares cX7_addShares 9 none, Cond.methodLink RX7 71 yX5_size, Cond.methodLink RX7 75 yX5_keyAt, Cond.methodLink RX7 78 yX5_asMuchAs, Cond.instanceMethod yX5_asMuchAs, Cond.selects RX5 yX5_asMuchAs yX5_asMuchAs, Cond.code yX5_asMuchAs cX5_asMuchAs 4 (some .int), Cond.methodLink RX7 81 yX5_whoAt, Cond.methodLink RL 80 yX12_won, Cond.instanceMethod yX12_won, Cond.selects RX12 yX12_won yX12_won]
def wsL_law_r42 : List Cond := [Cond.code yX12_won cX12_won 7 (some .int), Cond.methodLink RX12 408 yX12_areWeeks, Cond.static yX12_areWeeks, Cond.code yX12_areWeeks cX12_areWeeks 2 (some .boolean), Cond.methodLink RX12 412 yX12_wonIn, Cond.instanceMethod yX12_wonIn, Cond.selects RX12 yX12_wonIn yX12_wonIn, Cond.code yX12_wonIn cX12_wonIn 9 (some .int), Cond.methodLink RL 81 yX11_cut, Cond.instanceMethod yX11_cut, Cond.selects RX11 yX11_cut yX11_cut, Cond.code yX11_cut cX11_cut 4 (some .int), Cond.methodLink RX11 235 yX7_cutOn, Cond.instanceMethod yX7_cutOn, Cond.selects RX7 yX7_cutOn yX7_cutOn, Cond.code yX7_cutOn cX7_cutOn 9 (some .int), Cond.methodLink RL 85 yX12_cut, Cond.instanceMethod yX12_cut, Cond.selects RX12 yX12_cut yX12_cut, Cond.code yX12_cut cX12_cut 10 (some .int), Cond.methodLink RX12 416 yX12_sumTo, Cond.instanceMethod yX12_sumTo, Cond.selects RX12 yX12_sumTo yX12_sumTo, Cond.code yX12_sumTo cX12_sumTo 6 (some .int)]
def wsL_law_r43 : List Cond := [Cond.methodLink RL 86 yX11_luck, Cond.instanceMethod yX11_luck, Cond.selects RX11 yX11_luck yX11_luck, Cond.code yX11_luck cX11_luck 5 (some .long), Cond.constantLong RX11 238 (-1), Cond.methodLink RX11 240 yX8_compareCouples, Cond.instanceMethod yX8_compareCouples, Cond.selects RX8 yX8_compareCouples yX8_compareCouples, Cond.code yX8_compareCouples cX8_compareCouples 11 none, Cond.fieldLink RX8 38 "LuckLinks$World" "players" "I", Cond.methodLink RX8 43 yX8_addCouplesOfOne, Cond.instanceMethod yX8_addCouplesOfOne, Cond.selects RX8 yX8_addCouplesOfOne yX8_addCouplesOfOne, Cond.code yX8_addCouplesOfOne cX8_addCouplesOfOne 13 none, Cond.methodLink RX8 59 yX10_hasRound, Cond.methodLink RX8 63 yX10_valueOf, Cond.methodLink RX8 67 yX8_addCouples, Cond.instanceMethod yX8_addCouples, Cond.selects RX8 yX8_addCouples yX8_addCouples, Cond.code yX8_addCouples cX8_addCouples 7 none, Cond.constantLong RX8 79 (2), Cond.methodLink RX8 47 yX8_addCouplesOfDay, Cond.instanceMethod yX8_addCouplesOfDay, Cond.selects RX8 yX8_addCouplesOfDay yX8_addCouplesOfDay]
def wsL_law_r44 : List Cond := [Cond.code yX8_addCouplesOfDay cX8_addCouplesOfDay 9 none, Cond.methodLink RX8 71 yX10_roundsOn, Cond.methodLink RX8 75 yX10_allOf, Cond.instanceMethod yX10_allOf, Cond.selects RX10 yX10_allOf yX10_allOf, Cond.code yX10_allOf cX10_allOf 6 (some .int), Cond.methodLink RX8 50 yX6_setNone, Cond.instanceMethod yX6_setNone, Cond.selects RX6 yX6_setNone yX6_setNone, Cond.code yX6_setNone cX6_setNone 1 none, Cond.methodLink RX8 55 yX6_set, Cond.instanceMethod yX6_set, Cond.selects RX6 yX6_set yX6_set, Cond.code yX6_set cX6_set 7 none, Cond.methodLink RX6 16 Lib.MathLoose.abs_long.x, Cond.static Lib.MathLoose.abs_long.x, Cond.code Lib.MathLoose.abs_long.x Lib.MathLoose.abs_long.code 2 (some .long), Cond.methodLink RX6 22 yX6_divisorOf, Cond.static yX6_divisorOf, Cond.code yX6_divisorOf cX6_divisorOf 11 (some .long), Cond.methodLink RX6 26 yX6_setNone, Cond.methodLink RX11 244 yX6_pick, Cond.instanceMethod yX6_pick, Cond.selects RX6 yX6_pick yX6_pick]
def wsL_law_r45 : List Cond := [Cond.code yX6_pick cX6_pick 4 (some .long), Cond.methodLink RL 90 yX12_luck, Cond.instanceMethod yX12_luck, Cond.selects RX12 yX12_luck yX12_luck, Cond.code yX12_luck cX12_luck 20 (some .long), Cond.methodLink RX12 423 yX12_isPart, Cond.static yX12_isPart, Cond.code yX12_isPart cX12_isPart 1 (some .boolean), Cond.methodLink RX12 426 yX12_lowest, Cond.static yX12_lowest, Cond.code yX12_lowest cX12_lowest 7 (some .long), Cond.methodLink RX12 419 yX12_divisor, Cond.static yX12_divisor, Cond.code yX12_divisor cX12_divisor 10 (some .long), Cond.methodLink RL 91 yX11_back, Cond.instanceMethod yX11_back, Cond.selects RX11 yX11_back yX11_back, Cond.code yX11_back cX11_back 8 (some .int), Cond.constant RX11 248 (-1000000000), Cond.methodLink RX11 249 yX7_leadersOf, Cond.instanceMethod yX7_leadersOf, Cond.selects RX7 yX7_leadersOf yX7_leadersOf, Cond.code yX7_leadersOf cX7_leadersOf 11 (some .int), Cond.methodLink RX7 88 Lib.Math.min.name]
def wsL_law_r46 : List Cond := [Cond.methodLink RX7 84 yX10_valueOf, Cond.methodLink RL 94 yX12_back, Cond.instanceMethod yX12_back, Cond.selects RX12 yX12_back yX12_back, Cond.code yX12_back cX12_back 7 (some .int), Cond.constant RX12 439 (-1000000000), Cond.fieldLink RX12 433 "LuckLinksModel" "lead" "I", Cond.fieldLink RX12 436 "LuckLinksModel" "nextLead" "I", Cond.fieldLink RX12 430 "LuckLinksModel" "leaders" "I", Cond.methodLink RX12 440 yX12_leadsIn, Cond.instanceMethod yX12_leadsIn, Cond.selects RX12 yX12_leadsIn yX12_leadsIn, Cond.code yX12_leadsIn cX12_leadsIn 11 none, Cond.methodLink RL 95 yX11_skill, Cond.instanceMethod yX11_skill, Cond.selects RX11 yX11_skill yX11_skill, Cond.code yX11_skill cX11_skill 5 (some .long), Cond.constantLong RX11 252 (-1000000000000), Cond.methodLink RX11 254 yX1_gather, Cond.instanceMethod yX1_gather, Cond.selects RX1 yX1_gather yX1_gather, Cond.code yX1_gather cX1_gather 8 none, Cond.methodLink RX1 30 yX10_hasRound, Cond.methodLink RX1 36 yX10_offOf]
def wsL_law_r47 : List Cond := [Cond.instanceMethod yX10_offOf, Cond.selects RX10 yX10_offOf yX10_offOf, Cond.code yX10_offOf cX10_offOf 8 (some .long), Cond.constantLong RX10 117 (232792560), Cond.methodLink RX10 107 yX10_roundsOn, Cond.methodLink RX10 110 yX10_valueOf, Cond.methodLink RX10 114 yX10_allOf, Cond.methodLink RX11 258 yX1_weigh, Cond.instanceMethod yX1_weigh, Cond.selects RX1 yX1_weigh yX1_weigh, Cond.code yX1_weigh cX1_weigh 7 none, Cond.methodLink RX1 52 yX10_isPlayer, Cond.methodLink RX1 56 yX1_roundsIn, Cond.instanceMethod yX1_roundsIn, Cond.selects RX1 yX1_roundsIn yX1_roundsIn, Cond.code yX1_roundsIn cX1_roundsIn 3 (some .int), Cond.methodLink RX1 48 yX1_isRow, Cond.static yX1_isRow, Cond.code yX1_isRow cX1_isRow 2 (some .boolean), Cond.methodLink RX1 60 yX3_weightOf, Cond.methodLink RX1 66 yX1_offsIn, Cond.instanceMethod yX1_offsIn, Cond.selects RX1 yX1_offsIn yX1_offsIn, Cond.code yX1_offsIn cX1_offsIn 3 (some .long)]
def wsL_law_r48 : List Cond := [Cond.methodLink RX11 262 yX1_giveSkill, Cond.instanceMethod yX1_giveSkill, Cond.selects RX1 yX1_giveSkill yX1_giveSkill, Cond.code yX1_giveSkill cX1_giveSkill 2 none, Cond.constantLong RX1 70 (232792560), Cond.methodLink RX1 72 yX6_set, Cond.methodLink RL 98 yX12_skill, Cond.instanceMethod yX12_skill, Cond.selects RX12 yX12_skill yX12_skill, Cond.code yX12_skill cX12_skill 5 (some .long), Cond.constantLong RX12 456 (-1000000000000), Cond.fieldLink RX12 446 "LuckLinksModel" "skillWeight" "J", Cond.fieldLink RX12 443 "LuckLinksModel" "skillUp" "J", Cond.constantLong RX12 400 (232792560), Cond.methodLink RX12 453 yX12_isAhead, Cond.static yX12_isAhead, Cond.code yX12_isAhead cX12_isAhead 1 (some .boolean), Cond.methodLink RX12 458 yX12_findSkill, Cond.instanceMethod yX12_findSkill, Cond.selects RX12 yX12_findSkill yX12_findSkill, Cond.code yX12_findSkill cX12_findSkill 8 none, Cond.methodLink RX12 449 yX12_offOf, Cond.instanceMethod yX12_offOf, Cond.selects RX12 yX12_offOf yX12_offOf]
def wsL_law_r49 : List Cond := [Cond.code yX12_offOf cX12_offOf 5 (some .long), Cond.methodLink RL 99 yX11_span, Cond.instanceMethod yX11_span, Cond.selects RX11 yX11_span yX11_span, Cond.code yX11_span cX11_span 5 (some .int), Cond.constant RX11 266 (-1000000), Cond.methodLink RX11 267 yX1_spanOf, Cond.instanceMethod yX1_spanOf, Cond.selects RX1 yX1_spanOf yX1_spanOf, Cond.code yX1_spanOf cX1_spanOf 18 (some .int), Cond.constant RX1 82 (-1000000), Cond.methodLink RX1 78 yX1_weigh, Cond.methodLink RX1 83 yX1_hundredths, Cond.static yX1_hundredths, Cond.code yX1_hundredths cX1_hundredths 4 (some .int), Cond.constantLong RX1 109 (100), Cond.methodLink RL 102 yX12_span, Cond.instanceMethod yX12_span, Cond.selects RX12 yX12_span yX12_span, Cond.code yX12_span cX12_span 13 (some .int), Cond.constant RX12 461 (-1000000), Cond.constantLong RX12 465 (100), Cond.methodLink RX12 462 yX12_played, Cond.instanceMethod yX12_played]
def wsL_law_r50 : List Cond := [Cond.selects RX12 yX12_played yX12_played, Cond.code yX12_played cX12_played 3 (some .boolean), Cond.methodLink RL 103 yX11_best, Cond.instanceMethod yX11_best, Cond.selects RX11 yX11_best yX11_best, Cond.code yX11_best cX11_best 2 (some .int), Cond.methodLink RX11 271 yX1_gatherAll, Cond.instanceMethod yX1_gatherAll, Cond.selects RX1 yX1_gatherAll yX1_gatherAll, Cond.code yX1_gatherAll cX1_gatherAll 2 none, Cond.fieldLink RX1 40 "LuckLinks$World" "players" "I", Cond.methodLink RX1 44 yX1_gather, Cond.methodLink RX11 274 yX1_bestAhead, Cond.instanceMethod yX1_bestAhead, Cond.selects RX1 yX1_bestAhead yX1_bestAhead, Cond.code yX1_bestAhead cX1_bestAhead 10 (some .int), Cond.methodLink RL 106 yX12_best, Cond.instanceMethod yX12_best, Cond.selects RX12 yX12_best yX12_best, Cond.code yX12_best cX12_best 2 (some .int), Cond.methodLink RX12 467 yX12_bestOf, Cond.instanceMethod yX12_bestOf, Cond.selects RX12 yX12_bestOf yX12_bestOf, Cond.code yX12_bestOf cX12_bestOf 8 (some .int)]
def wsL_law_r51 : List Cond := [Cond.methodLink RL 107 yX11_years, Cond.instanceMethod yX11_years, Cond.selects RX11 yX11_years yX11_years, Cond.code yX11_years cX11_years 2 (some .int), Cond.methodLink RX11 278 yX1_longestBest, Cond.instanceMethod yX1_longestBest, Cond.selects RX1 yX1_longestBest yX1_longestBest, Cond.code yX1_longestBest cX1_longestBest 6 (some .int), Cond.methodLink RX1 91 Lib.Math.max.name, Cond.methodLink RX1 87 yX1_bestAhead, Cond.methodLink RL 110 yX12_years, Cond.instanceMethod yX12_years, Cond.selects RX12 yX12_years yX12_years, Cond.code yX12_years cX12_years 5 (some .int), Cond.methodLink RL 111 yX11_odds, Cond.instanceMethod yX11_odds, Cond.selects RX11 yX11_odds yX11_odds, Cond.code yX11_odds cX11_odds 6 (some .int), Cond.methodLink RX11 281 yX1_wholeSkill, Cond.instanceMethod yX1_wholeSkill, Cond.selects RX1 yX1_wholeSkill yX1_wholeSkill, Cond.code yX1_wholeSkill cX1_wholeSkill 4 (some .int), Cond.methodLink RX11 284 yX0_setStrokes, Cond.instanceMethod yX0_setStrokes]
def wsL_law_r52 : List Cond := [Cond.selects RX0 yX0_setStrokes yX0_setStrokes, Cond.code yX0_setStrokes cX0_setStrokes 3 none, Cond.methodLink RX11 287 yX0_winning, Cond.instanceMethod yX0_winning, Cond.selects RX0 yX0_winning yX0_winning, Cond.code yX0_winning cX0_winning 11 (some .int), Cond.constantLong RX0 63 (1000000), Cond.methodLink RX0 74 yX0_fillLot, Cond.instanceMethod yX0_fillLot, Cond.selects RX0 yX0_fillLot yX0_fillLot, Cond.code yX0_fillLot cX0_fillLot 6 none, Cond.fieldLink RX0 48 "LuckLinks$Law" "lucks" "[I", Cond.methodLink RX0 53 Lib.Math.min.name, Cond.methodLink RX0 42 yJ7_fill_d0a16, Cond.static yJ7_fill_d0a16, Cond.code yJ7_fill_d0a16 cJ7_fill_d0a16 5 none, Cond.methodLink RX0 59 yX0_addDraw, Cond.instanceMethod yX0_addDraw, Cond.selects RX0 yX0_addDraw yX0_addDraw, Cond.code yX0_addDraw cX0_addDraw 4 none, Cond.methodLink RX0 65 arraycopyName, Cond.native arraycopyName, Cond.static arraycopyName, Cond.initialized "java/lang/System"]
def wsL_law_r53 : List Cond := [Cond.methodLink RX0 71 Lib.Math.max.name, Cond.methodLink RX0 78 yX0_lotAbove, Cond.instanceMethod yX0_lotAbove, Cond.selects RX0 yX0_lotAbove yX0_lotAbove, Cond.code yX0_lotAbove cX0_lotAbove 3 (some .long), Cond.methodLink RL 114 yX12_odds, Cond.instanceMethod yX12_odds, Cond.selects RX12 yX12_odds yX12_odds, Cond.code yX12_odds cX12_odds 13 (some .int), Cond.constantLong RX12 470 (1000000), Cond.methodLink RX12 472 yX12_findLot, Cond.instanceMethod yX12_findLot, Cond.selects RX12 yX12_findLot yX12_findLot, Cond.code yX12_findLot cX12_findLot 7 none, Cond.methodLink RX12 475 yX12_skillBy, Cond.instanceMethod yX12_skillBy, Cond.selects RX12 yX12_skillBy yX12_skillBy, Cond.code yX12_skillBy cX12_skillBy 2 (some .int), Cond.methodLink RL 115 yX11_need, Cond.instanceMethod yX11_need, Cond.selects RX11 yX11_need yX11_need, Cond.code yX11_need cX11_need 3 (some .int), Cond.methodLink RX11 290 yX0_roundsNeeded, Cond.instanceMethod yX0_roundsNeeded]
def wsL_law_r54 : List Cond := [Cond.selects RX0 yX0_roundsNeeded yX0_roundsNeeded, Cond.code yX0_roundsNeeded cX0_roundsNeeded 8 (some .int), Cond.constantLong RX0 85 (10000), Cond.methodLink RX0 82 yX0_fillStep, Cond.instanceMethod yX0_fillStep, Cond.selects RX0 yX0_fillStep yX0_fillStep, Cond.code yX0_fillStep cX0_fillStep 3 none, Cond.methodLink RX0 94 Lib.MathLoose.max_long.x, Cond.static Lib.MathLoose.max_long.x, Cond.code Lib.MathLoose.max_long.x Lib.MathLoose.max_long.code 4 (some .long), Cond.methodLink RX0 87 yX0_gapsAbove, Cond.instanceMethod yX0_gapsAbove, Cond.selects RX0 yX0_gapsAbove yX0_gapsAbove, Cond.code yX0_gapsAbove cX0_gapsAbove 7 (some .long), Cond.methodLink RX0 91 yX0_addStep, Cond.instanceMethod yX0_addStep, Cond.selects RX0 yX0_addStep yX0_addStep, Cond.code yX0_addStep cX0_addStep 8 none, Cond.methodLink RL 118 yX12_need, Cond.instanceMethod yX12_need, Cond.selects RX12 yX12_need yX12_need, Cond.code yX12_need cX12_need 8 (some .int), Cond.constantLong RX12 481 (10000), Cond.methodLink RX12 478 yX12_findOnce]
def wsL_law_r55 : List Cond := [Cond.instanceMethod yX12_findOnce, Cond.selects RX12 yX12_findOnce yX12_findOnce, Cond.code yX12_findOnce cX12_findOnce 3 none, Cond.methodLink RL 119 yX11_lasts, Cond.instanceMethod yX11_lasts, Cond.selects RX11 yX11_lasts yX11_lasts, Cond.code yX11_lasts cX11_lasts 6 (some .int), Cond.fieldLink RX11 300 "LuckLinks$Halves" "alike" "I", Cond.fieldLink RX11 303 "LuckLinks$Halves" "unlike" "I", Cond.fieldLink RX11 306 "LuckLinks$Halves" "inBoth" "I", Cond.methodLink RX11 293 yX11_areHalves, Cond.static yX11_areHalves, Cond.code yX11_areHalves cX11_areHalves 3 (some .boolean), Cond.methodLink RX11 296 yX2_compareHalves, Cond.instanceMethod yX2_compareHalves, Cond.selects RX2 yX2_compareHalves yX2_compareHalves, Cond.code yX2_compareHalves cX2_compareHalves 6 none, Cond.methodLink RX2 38 yX2_gatherHalf, Cond.instanceMethod yX2_gatherHalf, Cond.selects RX2 yX2_gatherHalf yX2_gatherHalf, Cond.code yX2_gatherHalf cX2_gatherHalf 9 none, Cond.methodLink RX2 50 yX10_hasRound, Cond.methodLink RX2 56 yX10_offOf, Cond.methodLink RX2 42 yX2_isInBoth]
def wsL_law_r56 : List Cond := [Cond.instanceMethod yX2_isInBoth, Cond.selects RX2 yX2_isInBoth yX2_isInBoth, Cond.code yX2_isInBoth cX2_isInBoth 2 (some .boolean), Cond.methodLink RX2 46 yX2_compareWithThoseAhead, Cond.instanceMethod yX2_compareWithThoseAhead, Cond.selects RX2 yX2_compareWithThoseAhead yX2_compareWithThoseAhead, Cond.code yX2_compareWithThoseAhead cX2_compareWithThoseAhead 4 none, Cond.methodLink RX2 60 yX2_compareMeans, Cond.static yX2_compareMeans, Cond.code yX2_compareMeans cX2_compareMeans 4 (some .int), Cond.methodLink RX2 64 yJ13_compare_74951, Cond.static yJ13_compare_74951, Cond.initialized RJ13, Cond.code yJ13_compare_74951 cJ13_compare_74951 4 (some .int), Cond.methodLink RL 122 yX12_lasts, Cond.instanceMethod yX12_lasts, Cond.selects RX12 yX12_lasts yX12_lasts, Cond.code yX12_lasts cX12_lasts 6 (some .int), Cond.methodLink RX12 489 yX12_areHalves, Cond.static yX12_areHalves, Cond.code yX12_areHalves cX12_areHalves 3 (some .boolean), Cond.methodLink RX12 492 yX12_lastsBy, Cond.instanceMethod yX12_lastsBy, Cond.selects RX12 yX12_lastsBy yX12_lastsBy]
def wsL_law_r57 : List Cond := [Cond.code yX12_lastsBy cX12_lastsBy 12 (some .int), Cond.methodLink RX12 483 yX12_findHalves, Cond.instanceMethod yX12_findHalves, Cond.selects RX12 yX12_findHalves yX12_findHalves, Cond.code yX12_findHalves cX12_findHalves 9 none, Cond.methodLink RX12 486 yX12_orderOf, Cond.instanceMethod yX12_orderOf, Cond.selects RX12 yX12_orderOf yX12_orderOf, Cond.code yX12_orderOf cX12_orderOf 5 (some .int), Cond.methodLink RL 123 yX11_most, Cond.instanceMethod yX11_most, Cond.selects RX11 yX11_most yX11_most, Cond.code yX11_most cX11_most 4 (some .int), Cond.methodLink RX11 309 yX2_lastingPart, Cond.instanceMethod yX2_lastingPart, Cond.selects RX2 yX2_lastingPart yX2_lastingPart, Cond.code yX2_lastingPart cX2_lastingPart 7 (some .int), Cond.methodLink RX2 70 yX2_compareHalves, Cond.methodLink RL 126 yX12_most, Cond.instanceMethod yX12_most, Cond.selects RX12 yX12_most yX12_most, Cond.code yX12_most cX12_most 6 (some .int), Cond.methodLink RL 127 yX11_right, Cond.instanceMethod yX11_right]
def wsL_law_r58 : List Cond := [Cond.selects RX11 yX11_right yX11_right, Cond.code yX11_right cX11_right 4 (some .long), Cond.methodLink RX11 312 yX8_putRight, Cond.instanceMethod yX8_putRight, Cond.selects RX8 yX8_putRight yX8_putRight, Cond.code yX8_putRight cX8_putRight 16 none, Cond.methodLink RX8 81 yX10_sumOf, Cond.methodLink RL 131 yX12_right, Cond.instanceMethod yX12_right, Cond.selects RX12 yX12_right yX12_right, Cond.code yX12_right cX12_right 16 (some .long), Cond.constantLong RX12 496 (2), Cond.methodLink RL 132 yX11_listed, Cond.instanceMethod yX11_listed, Cond.selects RX11 yX11_listed yX11_listed, Cond.code yX11_listed cX11_listed 4 (some .int), Cond.methodLink RX11 316 yX7_listedAt, Cond.instanceMethod yX7_listedAt, Cond.selects RX7 yX7_listedAt yX7_listedAt, Cond.code yX7_listedAt cX7_listedAt 5 (some .int), Cond.methodLink RX7 93 yX7_rankByGains, Cond.instanceMethod yX7_rankByGains, Cond.selects RX7 yX7_rankByGains yX7_rankByGains, Cond.code yX7_rankByGains cX7_rankByGains 6 none]
def wsL_law_r59 : List Cond := [Cond.methodLink RL 135 yX12_listed, Cond.instanceMethod yX12_listed, Cond.selects RX12 yX12_listed yX12_listed, Cond.code yX12_listed cX12_listed 5 (some .int), Cond.methodLink RX12 501 yX12_findPoints, Cond.instanceMethod yX12_findPoints, Cond.selects RX12 yX12_findPoints yX12_findPoints, Cond.code yX12_findPoints cX12_findPoints 6 none, Cond.methodLink RX12 498 yX12_rankOf, Cond.instanceMethod yX12_rankOf, Cond.selects RX12 yX12_rankOf yX12_rankOf, Cond.code yX12_rankOf cX12_rankOf 4 (some .int), Cond.methodLink RL 136 yX11_line, Cond.instanceMethod yX11_line, Cond.selects RX11 yX11_line yX11_line, Cond.code yX11_line cX11_line 8 (some .int), Cond.methodLink RX11 319 yX7_firstOf, Cond.instanceMethod yX7_firstOf, Cond.selects RX7 yX7_firstOf yX7_firstOf, Cond.code yX7_firstOf cX7_firstOf 8 (some .int), Cond.methodLink RL 139 yX12_line, Cond.instanceMethod yX12_line, Cond.selects RX12 yX12_line yX12_line, Cond.code yX12_line cX12_line 8 (some .int)]
def wsL_law_r60 : List Cond := [Cond.methodLink RX12 504 yX12_firstOnes, Cond.instanceMethod yX12_firstOnes, Cond.selects RX12 yX12_firstOnes yX12_firstOnes, Cond.code yX12_firstOnes cX12_firstOnes 4 (some .int), Cond.methodLink RL 140 yX11_held, Cond.instanceMethod yX11_held, Cond.selects RX11 yX11_held yX11_held, Cond.code yX11_held cX11_held 3 (some .int), Cond.methodLink RX11 323 yX1_missed, Cond.instanceMethod yX1_missed, Cond.selects RX1 yX1_missed yX1_missed, Cond.code yX1_missed cX1_missed 7 (some .int), Cond.methodLink RX1 100 Lib.Math.abs.name, Cond.static Lib.Math.abs.name, Cond.code Lib.Math.abs.name Lib.Math.abs.code 1 (some .int), Cond.methodLink RX1 96 yX1_foretold, Cond.instanceMethod yX1_foretold, Cond.selects RX1 yX1_foretold yX1_foretold, Cond.code yX1_foretold cX1_foretold 5 (some .int), Cond.methodLink RX1 103 yX10_betOf, Cond.instanceMethod yX10_betOf, Cond.selects RX10 yX10_betOf yX10_betOf, Cond.code yX10_betOf cX10_betOf 3 (some .int), Cond.methodLink RX1 106 yX1_latest]
def wsL_law_r61 : List Cond := [Cond.instanceMethod yX1_latest, Cond.selects RX1 yX1_latest yX1_latest, Cond.code yX1_latest cX1_latest 5 (some .int), Cond.methodLink RL 143 yX12_held_, Cond.instanceMethod yX12_held_, Cond.selects RX12 yX12_held_ yX12_held_, Cond.code yX12_held_ cX12_held_ 7 (some .int), Cond.methodLink RX12 507 yX12_hundredths, Cond.static yX12_hundredths, Cond.code yX12_hundredths cX12_hundredths 4 (some .int), Cond.methodLink RX12 511 yX12_lastOff, Cond.instanceMethod yX12_lastOff, Cond.selects RX12 yX12_lastOff yX12_lastOff, Cond.code yX12_lastOff cX12_lastOff 8 (some .int), Cond.methodLink RX12 514 yX12_apartBy, Cond.static yX12_apartBy, Cond.code yX12_apartBy cX12_apartBy 2 (some .int), Cond.methodLink RL 144 yX11_worth, Cond.instanceMethod yX11_worth, Cond.selects RX11 yX11_worth yX11_worth, Cond.code yX11_worth cX11_worth 5 (some .long), Cond.constantLong RX11 326 (-1000000000), Cond.methodLink RX11 328 yX8_weighHour, Cond.instanceMethod yX8_weighHour]
def wsL_law_r62 : List Cond := [Cond.selects RX8 yX8_weighHour yX8_weighHour, Cond.code yX8_weighHour cX8_weighHour 19 none, Cond.methodLink RX8 84 yX10_hourOf, Cond.methodLink RL 147 yX12_worth, Cond.instanceMethod yX12_worth, Cond.selects RX12 yX12_worth yX12_worth, Cond.code yX12_worth cX12_worth 5 (some .long), Cond.constantLong RX12 523 (-1000000000), Cond.fieldLink RX12 520 "LuckLinksModel" "worthBelow" "J", Cond.fieldLink RX12 517 "LuckLinksModel" "worthUp" "J", Cond.methodLink RX12 525 yX12_findWorth, Cond.instanceMethod yX12_findWorth, Cond.selects RX12 yX12_findWorth yX12_findWorth, Cond.code yX12_findWorth cX12_findWorth 17 none, Cond.methodLink RL 148 yX11_cost, Cond.instanceMethod yX11_cost, Cond.selects RX11 yX11_cost yX11_cost, Cond.code yX11_cost cX11_cost 6 (some .long), Cond.methodLink RX11 331 yX8_chargeHour, Cond.instanceMethod yX8_chargeHour, Cond.selects RX8 yX8_chargeHour yX8_chargeHour, Cond.code yX8_chargeHour cX8_chargeHour 18 none, Cond.methodLink RX8 87 yX8_weighHour, Cond.methodLink RX8 91 yX6_multiply]
def wsL_law_r63 : List Cond := [Cond.instanceMethod yX6_multiply, Cond.selects RX6 yX6_multiply yX6_multiply, Cond.code yX6_multiply cX6_multiply 5 none, Cond.methodLink RX6 29 yX6_set, Cond.methodLink RL 152 yX12_cost, Cond.instanceMethod yX12_cost, Cond.selects RX12 yX12_cost yX12_cost, Cond.code yX12_cost cX12_cost 18 (some .long), Cond.methodLink RL 153 yX11_pressed, Cond.instanceMethod yX11_pressed, Cond.selects RX11 yX11_pressed yX11_pressed, Cond.code yX11_pressed cX11_pressed 3 (some .long), Cond.fieldLink RX11 342 "LuckLinks$Tallies" "pressYes" "I", Cond.fieldLink RX11 345 "LuckLinks$Tallies" "pressWeeks" "I", Cond.methodLink RX11 335 yX8_press, Cond.instanceMethod yX8_press, Cond.selects RX8 yX8_press yX8_press, Cond.code yX8_press cX8_press 6 none, Cond.constantLong RX8 98 (3), Cond.methodLink RX8 94 yX10_offOf, Cond.methodLink RX11 338 yX8_rowsOfPress, Cond.instanceMethod yX8_rowsOfPress, Cond.selects RX8 yX8_rowsOfPress yX8_rowsOfPress, Cond.code yX8_rowsOfPress cX8_rowsOfPress 6 (some .long)]
def wsL_law_r64 : List Cond := [Cond.methodLink RL 157 yX12_pressed, Cond.instanceMethod yX12_pressed, Cond.selects RX12 yX12_pressed yX12_pressed, Cond.code yX12_pressed cX12_pressed 3 (some .long), Cond.fieldLink RX12 528 "LuckLinksModel" "pressedMany" "I", Cond.fieldLink RX12 531 "LuckLinksModel" "pressedAll" "I", Cond.methodLink RX12 536 yX12_findPressed, Cond.instanceMethod yX12_findPressed, Cond.selects RX12 yX12_findPressed yX12_findPressed, Cond.code yX12_findPressed cX12_findPressed 5 none, Cond.constantLong RX12 534 (3), Cond.methodLink RX12 540 yX12_rowsOf, Cond.static yX12_rowsOf, Cond.code yX12_rowsOf cX12_rowsOf 7 (some .long), Cond.methodLink RL 158 yX11_other, Cond.instanceMethod yX11_other, Cond.selects RX11 yX11_other yX11_other, Cond.code yX11_other cX11_other 2 (some .int), Cond.fieldLink RX11 351 "LuckLinks$Tallies" "otherOne" "I", Cond.fieldLink RX11 354 "LuckLinks$Tallies" "looked" "I", Cond.methodLink RX11 348 yX8_findOther, Cond.instanceMethod yX8_findOther, Cond.selects RX8 yX8_findOther yX8_findOther, Cond.code yX8_findOther cX8_findOther 4 none]
def wsL_law_r65 : List Cond := [Cond.methodLink RX8 100 yX8_press, Cond.methodLink RX8 104 yX8_rowsOfPress, Cond.methodLink RX11 357 yX8_otherHundredths, Cond.instanceMethod yX8_otherHundredths, Cond.selects RX8 yX8_otherHundredths yX8_otherHundredths, Cond.code yX8_otherHundredths cX8_otherHundredths 1 (some .int), Cond.constantLong RX8 108 (100), Cond.methodLink RX8 110 Lib.MathLoose.min_long.x, Cond.static Lib.MathLoose.min_long.x, Cond.code Lib.MathLoose.min_long.x Lib.MathLoose.min_long.code 4 (some .long), Cond.methodLink RL 161 yX12_other, Cond.instanceMethod yX12_other, Cond.selects RX12 yX12_other yX12_other, Cond.code yX12_other cX12_other 9 (some .int), Cond.methodLink RL 162 yX11_beside, Cond.instanceMethod yX11_beside, Cond.selects RX11 yX11_beside yX11_beside, Cond.code yX11_beside cX11_beside 3 (some .long), Cond.methodLink RX11 361 yX8_lookBeside, Cond.instanceMethod yX8_lookBeside, Cond.selects RX8 yX8_lookBeside yX8_lookBeside, Cond.code yX8_lookBeside cX8_lookBeside 11 none, Cond.constantLong RX8 116 (232792560), Cond.methodLink RL 165 yX12_beside]
def wsL_law_r66 : List Cond := [Cond.instanceMethod yX12_beside, Cond.selects RX12 yX12_beside yX12_beside, Cond.code yX12_beside cX12_beside 10 (some .long), Cond.methodLink RL 166 yX11_image, Cond.instanceMethod yX11_image, Cond.selects RX11 yX11_image yX11_image, Cond.code yX11_image cX11_image 2 (some .int), Cond.methodLink RX11 365 yX10_copyFrom, Cond.instanceMethod yX10_copyFrom, Cond.selects RX10 yX10_copyFrom yX10_copyFrom, Cond.code yX10_copyFrom cX10_copyFrom 2 none, Cond.methodLink RX10 56 arraycopyName, Cond.methodLink RL 169 yX12_image, Cond.instanceMethod yX12_image, Cond.selects RX12 yX12_image yX12_image, Cond.code yX12_image cX12_image 1 (some .int), Cond.fieldLink RX12 171 "LuckLinksModel" "images" "I", Cond.methodLink RX12 178 yX12_copies, Cond.instanceMethod yX12_copies, Cond.selects RX12 yX12_copies yX12_copies, Cond.code yX12_copies cX12_copies 4 none, Cond.methodLink RL 170 yX11_restore, Cond.instanceMethod yX11_restore, Cond.selects RX11 yX11_restore yX11_restore]
def wsL_law_r67 : List Cond := [Cond.code yX11_restore cX11_restore 2 (some .boolean), Cond.methodLink RL 173 yX12_restore, Cond.instanceMethod yX12_restore, Cond.selects RX12 yX12_restore yX12_restore, Cond.code yX12_restore cX12_restore 2 (some .boolean), Cond.methodLink RL 174 yX11_count, Cond.instanceMethod yX11_count, Cond.selects RX11 yX11_count yX11_count, Cond.code yX11_count cX11_count 2 (some .int), Cond.methodLink RL 177 yX12_count, Cond.instanceMethod yX12_count, Cond.selects RX12 yX12_count yX12_count, Cond.code yX12_count cX12_count 2 (some .int)]
def wsL_law : List Cond := (wsL_law_r1 ++ (wsL_law_r2 ++ (wsL_law_r3 ++ (wsL_law_r4 ++ (wsL_law_r5 ++ (wsL_law_r6 ++ (wsL_law_r7 ++ (wsL_law_r8 ++ (wsL_law_r9 ++ (wsL_law_r10 ++ (wsL_law_r11 ++ (wsL_law_r12 ++ (wsL_law_r13 ++ (wsL_law_r14 ++ (wsL_law_r15 ++ (wsL_law_r16 ++ (wsL_law_r17 ++ (wsL_law_r18 ++ (wsL_law_r19 ++ (wsL_law_r20 ++ (wsL_law_r21 ++ (wsL_law_r22 ++ (wsL_law_r23 ++ (wsL_law_r24 ++ (wsL_law_r25 ++ (wsL_law_r26 ++ (wsL_law_r27 ++ (wsL_law_r28 ++ (wsL_law_r29 ++ (wsL_law_r30 ++ (wsL_law_r31 ++ (wsL_law_r32 ++ (wsL_law_r33 ++ (wsL_law_r34 ++ (wsL_law_r35 ++ (wsL_law_r36 ++ (wsL_law_r37 ++ (wsL_law_r38 ++ (wsL_law_r39 ++ (wsL_law_r40 ++ (wsL_law_r41 ++ (wsL_law_r42 ++ (wsL_law_r43 ++ (wsL_law_r44 ++ (wsL_law_r45 ++ (wsL_law_r46 ++ (wsL_law_r47 ++ (wsL_law_r48 ++ (wsL_law_r49 ++ (wsL_law_r50 ++ (wsL_law_r51 ++ (wsL_law_r52 ++ (wsL_law_r53 ++ (wsL_law_r54 ++ (wsL_law_r55 ++ (wsL_law_r56 ++ (wsL_law_r57 ++ (wsL_law_r58 ++ (wsL_law_r59 ++ (wsL_law_r60 ++ (wsL_law_r61 ++ (wsL_law_r62 ++ (wsL_law_r63 ++ (wsL_law_r64 ++ (wsL_law_r65 ++ (wsL_law_r66 ++ wsL_law_r67)))))))))))))))))))))))))))))))))))))))))))))))))))))))))))))))))) ++ wsX110 ++ wsX120 ++ wsX100 ++ wsX40 ++ wsX30 ++ wsX60 ++ wsX90 ++ wsX70 ++ wsX10 ++ wsX20 ++ wsX00 ++ wsX80 ++ wsX50 ++ ([] : List Cond)
theorem mt_p : ∀ w ∈ k2_sels lw_privs, w ∈ lw_tbl := fun _ h => List.mem_append_left _ h
theorem mt_1 : ∀ w ∈ tables_1_1, w ∈ lw_tbl := fun _ h => List.mem_append_right _ (List.mem_append_left _ h)
theorem mt_2 : ∀ w ∈ tables_1_2, w ∈ lw_tbl := fun _ h => List.mem_append_right _ (List.mem_append_right _ (List.mem_append_left _ h))
theorem mt_3 : ∀ w ∈ tables_1_3, w ∈ lw_tbl := fun _ h => List.mem_append_right _ (List.mem_append_right _ (List.mem_append_right _ (List.mem_append_left _ h)))
theorem mt_4 : ∀ w ∈ tables_1_4, w ∈ lw_tbl := fun _ h => List.mem_append_right _ (List.mem_append_right _ (List.mem_append_right _ (List.mem_append_right _ (List.mem_append_left _ h))))
theorem mt_5 : ∀ w ∈ tables_1_5, w ∈ lw_tbl := fun _ h => List.mem_append_right _ (List.mem_append_right _ (List.mem_append_right _ (List.mem_append_right _ (List.mem_append_right _ (List.mem_append_left _ h)))))
theorem mt_6 : ∀ w ∈ tables_1_6, w ∈ lw_tbl := fun _ h => List.mem_append_right _ (List.mem_append_right _ (List.mem_append_right _ (List.mem_append_right _ (List.mem_append_right _ (List.mem_append_right _ (List.mem_append_left _ h))))))
theorem mt_7 : ∀ w ∈ tables_1_7, w ∈ lw_tbl := fun _ h => List.mem_append_right _ (List.mem_append_right _ (List.mem_append_right _ (List.mem_append_right _ (List.mem_append_right _ (List.mem_append_right _ (List.mem_append_right _ (List.mem_append_left _ h)))))))
theorem mt_8 : ∀ w ∈ tables_1_8, w ∈ lw_tbl := fun _ h => List.mem_append_right _ (List.mem_append_right _ (List.mem_append_right _ (List.mem_append_right _ (List.mem_append_right _ (List.mem_append_right _ (List.mem_append_right _ (List.mem_append_right _ (List.mem_append_left _ h))))))))
theorem mt_9 : ∀ w ∈ tables_1_9, w ∈ lw_tbl := fun _ h => List.mem_append_right _ (List.mem_append_right _ (List.mem_append_right _ (List.mem_append_right _ (List.mem_append_right _ (List.mem_append_right _ (List.mem_append_right _ (List.mem_append_right _ (List.mem_append_right _ (h)))))))))
theorem ck_1 : ∀ w ∈ wsL_law_r1, w ∈ lw_tbl := by
  unfold wsL_law_r1
  exact List.forall_mem_cons.mpr ⟨mt_1 _ (List.mem_of_getElem? (i := 23) rfl), List.forall_mem_cons.mpr ⟨mt_1 _ (List.mem_of_getElem? (i := 24) rfl), List.forall_mem_cons.mpr ⟨mt_1 _ (List.mem_of_getElem? (i := 1) rfl), List.forall_mem_cons.mpr ⟨mt_6 _ (List.mem_of_getElem? (i := 112) rfl), List.forall_mem_cons.mpr ⟨mt_6 _ (List.mem_of_getElem? (i := 113) rfl), List.forall_mem_cons.mpr ⟨mt_1 _ (List.mem_of_getElem? (i := 14) rfl), List.forall_mem_cons.mpr ⟨mt_1 _ (List.mem_of_getElem? (i := 25) rfl), List.forall_mem_cons.mpr ⟨mt_1 _ (List.mem_of_getElem? (i := 26) rfl), List.forall_mem_cons.mpr ⟨mt_1 _ (List.mem_of_getElem? (i := 27) rfl), List.forall_mem_cons.mpr ⟨mt_1 _ (List.mem_of_getElem? (i := 28) rfl), List.forall_mem_cons.mpr ⟨mt_1 _ (List.mem_of_getElem? (i := 29) rfl), List.forall_mem_cons.mpr ⟨mt_1 _ (List.mem_of_getElem? (i := 30) rfl), List.forall_mem_cons.mpr ⟨mt_1 _ (List.mem_of_getElem? (i := 31) rfl), List.forall_mem_cons.mpr ⟨mt_1 _ (List.mem_of_getElem? (i := 32) rfl), List.forall_mem_cons.mpr ⟨mt_1 _ (List.mem_of_getElem? (i := 2) rfl), List.forall_mem_cons.mpr ⟨mt_2 _ (List.mem_of_getElem? (i := 171) rfl), List.forall_mem_cons.mpr ⟨mt_2 _ (List.mem_of_getElem? (i := 172) rfl), List.forall_mem_cons.mpr ⟨mt_2 _ (List.mem_of_getElem? (i := 173) rfl), List.forall_mem_cons.mpr ⟨mt_1 _ (List.mem_of_getElem? (i := 178) rfl), List.forall_mem_cons.mpr ⟨mt_2 _ (List.mem_of_getElem? (i := 174) rfl), List.forall_mem_cons.mpr ⟨mt_2 _ (List.mem_of_getElem? (i := 175) rfl), List.forall_mem_cons.mpr ⟨mt_1 _ (List.mem_of_getElem? (i := 90) rfl), List.forall_mem_cons.mpr ⟨mt_1 _ (List.mem_of_getElem? (i := 91) rfl), List.forall_mem_cons.mpr ⟨mt_1 _ (List.mem_of_getElem? (i := 4) rfl), fun _ h => absurd h List.not_mem_nil⟩⟩⟩⟩⟩⟩⟩⟩⟩⟩⟩⟩⟩⟩⟩⟩⟩⟩⟩⟩⟩⟩⟩⟩
theorem ck_2 : ∀ w ∈ wsL_law_r2, w ∈ lw_tbl := by
  unfold wsL_law_r2
  exact List.forall_mem_cons.mpr ⟨mt_2 _ (List.mem_of_getElem? (i := 176) rfl), List.forall_mem_cons.mpr ⟨mt_1 _ (List.mem_of_getElem? (i := 217) rfl), List.forall_mem_cons.mpr ⟨mt_1 _ (List.mem_of_getElem? (i := 97) rfl), List.forall_mem_cons.mpr ⟨mt_1 _ (List.mem_of_getElem? (i := 5) rfl), List.forall_mem_cons.mpr ⟨mt_2 _ (List.mem_of_getElem? (i := 177) rfl), List.forall_mem_cons.mpr ⟨mt_2 _ (List.mem_of_getElem? (i := 178) rfl), List.forall_mem_cons.mpr ⟨mt_2 _ (List.mem_of_getElem? (i := 179) rfl), List.forall_mem_cons.mpr ⟨mt_1 _ (List.mem_of_getElem? (i := 88) rfl), List.forall_mem_cons.mpr ⟨mt_2 _ (List.mem_of_getElem? (i := 180) rfl), List.forall_mem_cons.mpr ⟨mt_1 _ (List.mem_of_getElem? (i := 219) rfl), List.forall_mem_cons.mpr ⟨mt_1 _ (List.mem_of_getElem? (i := 220) rfl), List.forall_mem_cons.mpr ⟨mt_1 _ (List.mem_of_getElem? (i := 6) rfl), List.forall_mem_cons.mpr ⟨mt_2 _ (List.mem_of_getElem? (i := 181) rfl), List.forall_mem_cons.mpr ⟨mt_1 _ (List.mem_of_getElem? (i := 232) rfl), List.forall_mem_cons.mpr ⟨mt_1 _ (List.mem_of_getElem? (i := 233) rfl), List.forall_mem_cons.mpr ⟨mt_1 _ (List.mem_of_getElem? (i := 7) rfl), List.forall_mem_cons.mpr ⟨mt_2 _ (List.mem_of_getElem? (i := 182) rfl), List.forall_mem_cons.mpr ⟨mt_2 _ (List.mem_of_getElem? (i := 27) rfl), List.forall_mem_cons.mpr ⟨mt_2 _ (List.mem_of_getElem? (i := 28) rfl), List.forall_mem_cons.mpr ⟨mt_1 _ (List.mem_of_getElem? (i := 9) rfl), List.forall_mem_cons.mpr ⟨mt_2 _ (List.mem_of_getElem? (i := 183) rfl), List.forall_mem_cons.mpr ⟨mt_2 _ (List.mem_of_getElem? (i := 45) rfl), List.forall_mem_cons.mpr ⟨mt_2 _ (List.mem_of_getElem? (i := 46) rfl), List.forall_mem_cons.mpr ⟨mt_1 _ (List.mem_of_getElem? (i := 10) rfl), fun _ h => absurd h List.not_mem_nil⟩⟩⟩⟩⟩⟩⟩⟩⟩⟩⟩⟩⟩⟩⟩⟩⟩⟩⟩⟩⟩⟩⟩⟩
theorem ck_3 : ∀ w ∈ wsL_law_r3, w ∈ lw_tbl := by
  unfold wsL_law_r3
  exact List.forall_mem_cons.mpr ⟨mt_2 _ (List.mem_of_getElem? (i := 184) rfl), List.forall_mem_cons.mpr ⟨mt_2 _ (List.mem_of_getElem? (i := 68) rfl), List.forall_mem_cons.mpr ⟨mt_2 _ (List.mem_of_getElem? (i := 69) rfl), List.forall_mem_cons.mpr ⟨mt_1 _ (List.mem_of_getElem? (i := 11) rfl), List.forall_mem_cons.mpr ⟨mt_2 _ (List.mem_of_getElem? (i := 185) rfl), List.forall_mem_cons.mpr ⟨mt_2 _ (List.mem_of_getElem? (i := 102) rfl), List.forall_mem_cons.mpr ⟨mt_2 _ (List.mem_of_getElem? (i := 103) rfl), List.forall_mem_cons.mpr ⟨mt_1 _ (List.mem_of_getElem? (i := 12) rfl), List.forall_mem_cons.mpr ⟨mt_2 _ (List.mem_of_getElem? (i := 186) rfl), List.forall_mem_cons.mpr ⟨mt_2 _ (List.mem_of_getElem? (i := 136) rfl), List.forall_mem_cons.mpr ⟨mt_2 _ (List.mem_of_getElem? (i := 137) rfl), List.forall_mem_cons.mpr ⟨mt_1 _ (List.mem_of_getElem? (i := 13) rfl), List.forall_mem_cons.mpr ⟨mt_2 _ (List.mem_of_getElem? (i := 187) rfl), List.forall_mem_cons.mpr ⟨mt_1 _ (List.mem_of_getElem? (i := 33) rfl), List.forall_mem_cons.mpr ⟨mt_1 _ (List.mem_of_getElem? (i := 34) rfl), List.forall_mem_cons.mpr ⟨mt_1 _ (List.mem_of_getElem? (i := 35) rfl), List.forall_mem_cons.mpr ⟨mt_1 _ (List.mem_of_getElem? (i := 36) rfl), List.forall_mem_cons.mpr ⟨mt_1 _ (List.mem_of_getElem? (i := 40) rfl), List.forall_mem_cons.mpr ⟨mt_1 _ (List.mem_of_getElem? (i := 46) rfl), List.forall_mem_cons.mpr ⟨mt_1 _ (List.mem_of_getElem? (i := 47) rfl), List.forall_mem_cons.mpr ⟨mt_1 _ (List.mem_of_getElem? (i := 49) rfl), List.forall_mem_cons.mpr ⟨mt_1 _ (List.mem_of_getElem? (i := 50) rfl), List.forall_mem_cons.mpr ⟨mt_1 _ (List.mem_of_getElem? (i := 52) rfl), List.forall_mem_cons.mpr ⟨mt_1 _ (List.mem_of_getElem? (i := 55) rfl), fun _ h => absurd h List.not_mem_nil⟩⟩⟩⟩⟩⟩⟩⟩⟩⟩⟩⟩⟩⟩⟩⟩⟩⟩⟩⟩⟩⟩⟩⟩
theorem ck_4 : ∀ w ∈ wsL_law_r4, w ∈ lw_tbl := by
  unfold wsL_law_r4
  exact List.forall_mem_cons.mpr ⟨mt_1 _ (List.mem_of_getElem? (i := 56) rfl), List.forall_mem_cons.mpr ⟨mt_1 _ (List.mem_of_getElem? (i := 57) rfl), List.forall_mem_cons.mpr ⟨mt_1 _ (List.mem_of_getElem? (i := 58) rfl), List.forall_mem_cons.mpr ⟨mt_1 _ (List.mem_of_getElem? (i := 59) rfl), List.forall_mem_cons.mpr ⟨mt_1 _ (List.mem_of_getElem? (i := 60) rfl), List.forall_mem_cons.mpr ⟨mt_1 _ (List.mem_of_getElem? (i := 37) rfl), List.forall_mem_cons.mpr ⟨mt_1 _ (List.mem_of_getElem? (i := 38) rfl), List.forall_mem_cons.mpr ⟨mt_1 _ (List.mem_of_getElem? (i := 3) rfl), List.forall_mem_cons.mpr ⟨mt_1 _ (List.mem_of_getElem? (i := 39) rfl), List.forall_mem_cons.mpr ⟨mt_1 _ (List.mem_of_getElem? (i := 92) rfl), List.forall_mem_cons.mpr ⟨mt_1 _ (List.mem_of_getElem? (i := 93) rfl), List.forall_mem_cons.mpr ⟨mt_1 _ (List.mem_of_getElem? (i := 94) rfl), List.forall_mem_cons.mpr ⟨mt_1 _ (List.mem_of_getElem? (i := 95) rfl), List.forall_mem_cons.mpr ⟨mt_1 _ (List.mem_of_getElem? (i := 180) rfl), List.forall_mem_cons.mpr ⟨mt_1 _ (List.mem_of_getElem? (i := 96) rfl), List.forall_mem_cons.mpr ⟨mt_1 _ (List.mem_of_getElem? (i := 181) rfl), List.forall_mem_cons.mpr ⟨mt_1 _ (List.mem_of_getElem? (i := 182) rfl), List.forall_mem_cons.mpr ⟨mt_1 _ (List.mem_of_getElem? (i := 183) rfl), List.forall_mem_cons.mpr ⟨mt_1 _ (List.mem_of_getElem? (i := 184) rfl), List.forall_mem_cons.mpr ⟨mt_1 _ (List.mem_of_getElem? (i := 185) rfl), List.forall_mem_cons.mpr ⟨mt_1 _ (List.mem_of_getElem? (i := 186) rfl), List.forall_mem_cons.mpr ⟨mt_1 _ (List.mem_of_getElem? (i := 187) rfl), List.forall_mem_cons.mpr ⟨mt_1 _ (List.mem_of_getElem? (i := 188) rfl), List.forall_mem_cons.mpr ⟨mt_1 _ (List.mem_of_getElem? (i := 189) rfl), fun _ h => absurd h List.not_mem_nil⟩⟩⟩⟩⟩⟩⟩⟩⟩⟩⟩⟩⟩⟩⟩⟩⟩⟩⟩⟩⟩⟩⟩⟩
theorem ck_5 : ∀ w ∈ wsL_law_r5, w ∈ lw_tbl := by
  unfold wsL_law_r5
  exact List.forall_mem_cons.mpr ⟨mt_1 _ (List.mem_of_getElem? (i := 190) rfl), List.forall_mem_cons.mpr ⟨mt_1 _ (List.mem_of_getElem? (i := 191) rfl), List.forall_mem_cons.mpr ⟨mt_1 _ (List.mem_of_getElem? (i := 98) rfl), List.forall_mem_cons.mpr ⟨mt_1 _ (List.mem_of_getElem? (i := 99) rfl), List.forall_mem_cons.mpr ⟨mt_1 _ (List.mem_of_getElem? (i := 100) rfl), List.forall_mem_cons.mpr ⟨mt_1 _ (List.mem_of_getElem? (i := 101) rfl), List.forall_mem_cons.mpr ⟨mt_1 _ (List.mem_of_getElem? (i := 103) rfl), List.forall_mem_cons.mpr ⟨mt_1 _ (List.mem_of_getElem? (i := 106) rfl), List.forall_mem_cons.mpr ⟨mt_1 _ (List.mem_of_getElem? (i := 110) rfl), List.forall_mem_cons.mpr ⟨mt_1 _ (List.mem_of_getElem? (i := 115) rfl), List.forall_mem_cons.mpr ⟨mt_1 _ (List.mem_of_getElem? (i := 119) rfl), List.forall_mem_cons.mpr ⟨mt_1 _ (List.mem_of_getElem? (i := 122) rfl), List.forall_mem_cons.mpr ⟨mt_1 _ (List.mem_of_getElem? (i := 125) rfl), List.forall_mem_cons.mpr ⟨mt_1 _ (List.mem_of_getElem? (i := 127) rfl), List.forall_mem_cons.mpr ⟨mt_1 _ (List.mem_of_getElem? (i := 128) rfl), List.forall_mem_cons.mpr ⟨mt_1 _ (List.mem_of_getElem? (i := 129) rfl), List.forall_mem_cons.mpr ⟨mt_1 _ (List.mem_of_getElem? (i := 130) rfl), List.forall_mem_cons.mpr ⟨mt_1 _ (List.mem_of_getElem? (i := 131) rfl), List.forall_mem_cons.mpr ⟨mt_1 _ (List.mem_of_getElem? (i := 132) rfl), List.forall_mem_cons.mpr ⟨mt_1 _ (List.mem_of_getElem? (i := 133) rfl), List.forall_mem_cons.mpr ⟨mt_1 _ (List.mem_of_getElem? (i := 134) rfl), List.forall_mem_cons.mpr ⟨mt_1 _ (List.mem_of_getElem? (i := 135) rfl), List.forall_mem_cons.mpr ⟨mt_1 _ (List.mem_of_getElem? (i := 136) rfl), List.forall_mem_cons.mpr ⟨mt_1 _ (List.mem_of_getElem? (i := 137) rfl), fun _ h => absurd h List.not_mem_nil⟩⟩⟩⟩⟩⟩⟩⟩⟩⟩⟩⟩⟩⟩⟩⟩⟩⟩⟩⟩⟩⟩⟩⟩
theorem ck_6 : ∀ w ∈ wsL_law_r6, w ∈ lw_tbl := by
  unfold wsL_law_r6
  exact List.forall_mem_cons.mpr ⟨mt_1 _ (List.mem_of_getElem? (i := 179) rfl), List.forall_mem_cons.mpr ⟨mt_1 _ (List.mem_of_getElem? (i := 138) rfl), List.forall_mem_cons.mpr ⟨mt_1 _ (List.mem_of_getElem? (i := 102) rfl), List.forall_mem_cons.mpr ⟨mt_1 _ (List.mem_of_getElem? (i := 218) rfl), List.forall_mem_cons.mpr ⟨mt_1 _ (List.mem_of_getElem? (i := 221) rfl), List.forall_mem_cons.mpr ⟨mt_1 _ (List.mem_of_getElem? (i := 222) rfl), List.forall_mem_cons.mpr ⟨mt_1 _ (List.mem_of_getElem? (i := 223) rfl), List.forall_mem_cons.mpr ⟨mt_1 _ (List.mem_of_getElem? (i := 224) rfl), List.forall_mem_cons.mpr ⟨mt_1 _ (List.mem_of_getElem? (i := 225) rfl), List.forall_mem_cons.mpr ⟨mt_1 _ (List.mem_of_getElem? (i := 226) rfl), List.forall_mem_cons.mpr ⟨mt_1 _ (List.mem_of_getElem? (i := 234) rfl), List.forall_mem_cons.mpr ⟨mt_1 _ (List.mem_of_getElem? (i := 235) rfl), List.forall_mem_cons.mpr ⟨mt_1 _ (List.mem_of_getElem? (i := 236) rfl), List.forall_mem_cons.mpr ⟨mt_1 _ (List.mem_of_getElem? (i := 237) rfl), List.forall_mem_cons.mpr ⟨mt_1 _ (List.mem_of_getElem? (i := 238) rfl), List.forall_mem_cons.mpr ⟨mt_1 _ (List.mem_of_getElem? (i := 239) rfl), List.forall_mem_cons.mpr ⟨mt_1 _ (List.mem_of_getElem? (i := 8) rfl), List.forall_mem_cons.mpr ⟨mt_2 _ (List.mem_of_getElem? (i := 15) rfl), List.forall_mem_cons.mpr ⟨mt_2 _ (List.mem_of_getElem? (i := 16) rfl), List.forall_mem_cons.mpr ⟨mt_2 _ (List.mem_of_getElem? (i := 17) rfl), List.forall_mem_cons.mpr ⟨mt_2 _ (List.mem_of_getElem? (i := 14) rfl), List.forall_mem_cons.mpr ⟨mt_2 _ (List.mem_of_getElem? (i := 0) rfl), List.forall_mem_cons.mpr ⟨mt_2 _ (List.mem_of_getElem? (i := 1) rfl), List.forall_mem_cons.mpr ⟨mt_2 _ (List.mem_of_getElem? (i := 2) rfl), fun _ h => absurd h List.not_mem_nil⟩⟩⟩⟩⟩⟩⟩⟩⟩⟩⟩⟩⟩⟩⟩⟩⟩⟩⟩⟩⟩⟩⟩⟩
theorem ck_7 : ∀ w ∈ wsL_law_r7, w ∈ lw_tbl := by
  unfold wsL_law_r7
  exact List.forall_mem_cons.mpr ⟨mt_2 _ (List.mem_of_getElem? (i := 3) rfl), List.forall_mem_cons.mpr ⟨mt_2 _ (List.mem_of_getElem? (i := 4) rfl), List.forall_mem_cons.mpr ⟨mt_2 _ (List.mem_of_getElem? (i := 5) rfl), List.forall_mem_cons.mpr ⟨mt_2 _ (List.mem_of_getElem? (i := 6) rfl), List.forall_mem_cons.mpr ⟨mt_2 _ (List.mem_of_getElem? (i := 29) rfl), List.forall_mem_cons.mpr ⟨mt_2 _ (List.mem_of_getElem? (i := 30) rfl), List.forall_mem_cons.mpr ⟨mt_2 _ (List.mem_of_getElem? (i := 31) rfl), List.forall_mem_cons.mpr ⟨mt_2 _ (List.mem_of_getElem? (i := 32) rfl), List.forall_mem_cons.mpr ⟨mt_2 _ (List.mem_of_getElem? (i := 33) rfl), List.forall_mem_cons.mpr ⟨mt_2 _ (List.mem_of_getElem? (i := 36) rfl), List.forall_mem_cons.mpr ⟨mt_2 _ (List.mem_of_getElem? (i := 37) rfl), List.forall_mem_cons.mpr ⟨mt_2 _ (List.mem_of_getElem? (i := 35) rfl), List.forall_mem_cons.mpr ⟨mt_2 _ (List.mem_of_getElem? (i := 34) rfl), List.forall_mem_cons.mpr ⟨mt_2 _ (List.mem_of_getElem? (i := 47) rfl), List.forall_mem_cons.mpr ⟨mt_2 _ (List.mem_of_getElem? (i := 48) rfl), List.forall_mem_cons.mpr ⟨mt_2 _ (List.mem_of_getElem? (i := 49) rfl), List.forall_mem_cons.mpr ⟨mt_2 _ (List.mem_of_getElem? (i := 50) rfl), List.forall_mem_cons.mpr ⟨mt_2 _ (List.mem_of_getElem? (i := 67) rfl), List.forall_mem_cons.mpr ⟨mt_2 _ (List.mem_of_getElem? (i := 52) rfl), List.forall_mem_cons.mpr ⟨mt_2 _ (List.mem_of_getElem? (i := 53) rfl), List.forall_mem_cons.mpr ⟨mt_2 _ (List.mem_of_getElem? (i := 54) rfl), List.forall_mem_cons.mpr ⟨mt_2 _ (List.mem_of_getElem? (i := 55) rfl), List.forall_mem_cons.mpr ⟨mt_2 _ (List.mem_of_getElem? (i := 51) rfl), List.forall_mem_cons.mpr ⟨mt_2 _ (List.mem_of_getElem? (i := 70) rfl), fun _ h => absurd h List.not_mem_nil⟩⟩⟩⟩⟩⟩⟩⟩⟩⟩⟩⟩⟩⟩⟩⟩⟩⟩⟩⟩⟩⟩⟩⟩
theorem ck_8 : ∀ w ∈ wsL_law_r8, w ∈ lw_tbl := by
  unfold wsL_law_r8
  exact List.forall_mem_cons.mpr ⟨mt_2 _ (List.mem_of_getElem? (i := 71) rfl), List.forall_mem_cons.mpr ⟨mt_2 _ (List.mem_of_getElem? (i := 72) rfl), List.forall_mem_cons.mpr ⟨mt_2 _ (List.mem_of_getElem? (i := 73) rfl), List.forall_mem_cons.mpr ⟨mt_2 _ (List.mem_of_getElem? (i := 75) rfl), List.forall_mem_cons.mpr ⟨mt_2 _ (List.mem_of_getElem? (i := 76) rfl), List.forall_mem_cons.mpr ⟨mt_2 _ (List.mem_of_getElem? (i := 77) rfl), List.forall_mem_cons.mpr ⟨mt_2 _ (List.mem_of_getElem? (i := 78) rfl), List.forall_mem_cons.mpr ⟨mt_2 _ (List.mem_of_getElem? (i := 79) rfl), List.forall_mem_cons.mpr ⟨mt_2 _ (List.mem_of_getElem? (i := 81) rfl), List.forall_mem_cons.mpr ⟨mt_2 _ (List.mem_of_getElem? (i := 83) rfl), List.forall_mem_cons.mpr ⟨mt_2 _ (List.mem_of_getElem? (i := 74) rfl), List.forall_mem_cons.mpr ⟨mt_2 _ (List.mem_of_getElem? (i := 104) rfl), List.forall_mem_cons.mpr ⟨mt_2 _ (List.mem_of_getElem? (i := 105) rfl), List.forall_mem_cons.mpr ⟨mt_2 _ (List.mem_of_getElem? (i := 106) rfl), List.forall_mem_cons.mpr ⟨mt_2 _ (List.mem_of_getElem? (i := 107) rfl), List.forall_mem_cons.mpr ⟨mt_2 _ (List.mem_of_getElem? (i := 108) rfl), List.forall_mem_cons.mpr ⟨mt_2 _ (List.mem_of_getElem? (i := 109) rfl), List.forall_mem_cons.mpr ⟨mt_2 _ (List.mem_of_getElem? (i := 110) rfl), List.forall_mem_cons.mpr ⟨mt_2 _ (List.mem_of_getElem? (i := 111) rfl), List.forall_mem_cons.mpr ⟨mt_2 _ (List.mem_of_getElem? (i := 112) rfl), List.forall_mem_cons.mpr ⟨mt_2 _ (List.mem_of_getElem? (i := 113) rfl), List.forall_mem_cons.mpr ⟨mt_2 _ (List.mem_of_getElem? (i := 114) rfl), List.forall_mem_cons.mpr ⟨mt_2 _ (List.mem_of_getElem? (i := 115) rfl), List.forall_mem_cons.mpr ⟨mt_2 _ (List.mem_of_getElem? (i := 116) rfl), fun _ h => absurd h List.not_mem_nil⟩⟩⟩⟩⟩⟩⟩⟩⟩⟩⟩⟩⟩⟩⟩⟩⟩⟩⟩⟩⟩⟩⟩⟩
theorem ck_9 : ∀ w ∈ wsL_law_r9, w ∈ lw_tbl := by
  unfold wsL_law_r9
  exact List.forall_mem_cons.mpr ⟨mt_2 _ (List.mem_of_getElem? (i := 138) rfl), List.forall_mem_cons.mpr ⟨mt_2 _ (List.mem_of_getElem? (i := 139) rfl), List.forall_mem_cons.mpr ⟨mt_2 _ (List.mem_of_getElem? (i := 140) rfl), List.forall_mem_cons.mpr ⟨mt_2 _ (List.mem_of_getElem? (i := 141) rfl), List.forall_mem_cons.mpr ⟨mt_2 _ (List.mem_of_getElem? (i := 143) rfl), List.forall_mem_cons.mpr ⟨mt_2 _ (List.mem_of_getElem? (i := 145) rfl), List.forall_mem_cons.mpr ⟨mt_2 _ (List.mem_of_getElem? (i := 147) rfl), List.forall_mem_cons.mpr ⟨mt_2 _ (List.mem_of_getElem? (i := 149) rfl), List.forall_mem_cons.mpr ⟨mt_2 _ (List.mem_of_getElem? (i := 151) rfl), List.forall_mem_cons.mpr ⟨mt_2 _ (List.mem_of_getElem? (i := 152) rfl), List.forall_mem_cons.mpr ⟨mt_2 _ (List.mem_of_getElem? (i := 153) rfl), List.forall_mem_cons.mpr ⟨mt_2 _ (List.mem_of_getElem? (i := 142) rfl), List.forall_mem_cons.mpr ⟨mt_6 _ (List.mem_of_getElem? (i := 114) rfl), List.forall_mem_cons.mpr ⟨mt_6 _ (List.mem_of_getElem? (i := 115) rfl), List.forall_mem_cons.mpr ⟨mt_6 _ (List.mem_of_getElem? (i := 116) rfl), List.forall_mem_cons.mpr ⟨mt_6 _ (List.mem_of_getElem? (i := 117) rfl), List.forall_mem_cons.mpr ⟨mt_6 _ (List.mem_of_getElem? (i := 119) rfl), List.forall_mem_cons.mpr ⟨mt_6 _ (List.mem_of_getElem? (i := 120) rfl), List.forall_mem_cons.mpr ⟨mt_6 _ (List.mem_of_getElem? (i := 121) rfl), List.forall_mem_cons.mpr ⟨mt_6 _ (List.mem_of_getElem? (i := 122) rfl), List.forall_mem_cons.mpr ⟨mt_6 _ (List.mem_of_getElem? (i := 123) rfl), List.forall_mem_cons.mpr ⟨mt_6 _ (List.mem_of_getElem? (i := 124) rfl), List.forall_mem_cons.mpr ⟨mt_6 _ (List.mem_of_getElem? (i := 125) rfl), List.forall_mem_cons.mpr ⟨mt_6 _ (List.mem_of_getElem? (i := 126) rfl), fun _ h => absurd h List.not_mem_nil⟩⟩⟩⟩⟩⟩⟩⟩⟩⟩⟩⟩⟩⟩⟩⟩⟩⟩⟩⟩⟩⟩⟩⟩
theorem ck_10 : ∀ w ∈ wsL_law_r10, w ∈ lw_tbl := by
  unfold wsL_law_r10
  exact List.forall_mem_cons.mpr ⟨mt_6 _ (List.mem_of_getElem? (i := 127) rfl), List.forall_mem_cons.mpr ⟨mt_6 _ (List.mem_of_getElem? (i := 128) rfl), List.forall_mem_cons.mpr ⟨mt_6 _ (List.mem_of_getElem? (i := 118) rfl), List.forall_mem_cons.mpr ⟨mt_6 _ (List.mem_of_getElem? (i := 129) rfl), List.forall_mem_cons.mpr ⟨mt_6 _ (List.mem_of_getElem? (i := 130) rfl), List.forall_mem_cons.mpr ⟨mt_6 _ (List.mem_of_getElem? (i := 132) rfl), List.forall_mem_cons.mpr ⟨mt_6 _ (List.mem_of_getElem? (i := 133) rfl), List.forall_mem_cons.mpr ⟨mt_6 _ (List.mem_of_getElem? (i := 134) rfl), List.forall_mem_cons.mpr ⟨mt_6 _ (List.mem_of_getElem? (i := 135) rfl), List.forall_mem_cons.mpr ⟨mt_6 _ (List.mem_of_getElem? (i := 136) rfl), List.forall_mem_cons.mpr ⟨mt_6 _ (List.mem_of_getElem? (i := 137) rfl), List.forall_mem_cons.mpr ⟨mt_6 _ (List.mem_of_getElem? (i := 138) rfl), List.forall_mem_cons.mpr ⟨mt_6 _ (List.mem_of_getElem? (i := 139) rfl), List.forall_mem_cons.mpr ⟨mt_6 _ (List.mem_of_getElem? (i := 140) rfl), List.forall_mem_cons.mpr ⟨mt_6 _ (List.mem_of_getElem? (i := 141) rfl), List.forall_mem_cons.mpr ⟨mt_6 _ (List.mem_of_getElem? (i := 142) rfl), List.forall_mem_cons.mpr ⟨mt_6 _ (List.mem_of_getElem? (i := 143) rfl), List.forall_mem_cons.mpr ⟨mt_6 _ (List.mem_of_getElem? (i := 144) rfl), List.forall_mem_cons.mpr ⟨mt_6 _ (List.mem_of_getElem? (i := 145) rfl), List.forall_mem_cons.mpr ⟨mt_6 _ (List.mem_of_getElem? (i := 146) rfl), List.forall_mem_cons.mpr ⟨mt_6 _ (List.mem_of_getElem? (i := 147) rfl), List.forall_mem_cons.mpr ⟨mt_6 _ (List.mem_of_getElem? (i := 148) rfl), List.forall_mem_cons.mpr ⟨mt_6 _ (List.mem_of_getElem? (i := 149) rfl), List.forall_mem_cons.mpr ⟨mt_6 _ (List.mem_of_getElem? (i := 151) rfl), fun _ h => absurd h List.not_mem_nil⟩⟩⟩⟩⟩⟩⟩⟩⟩⟩⟩⟩⟩⟩⟩⟩⟩⟩⟩⟩⟩⟩⟩⟩
theorem ck_11 : ∀ w ∈ wsL_law_r11, w ∈ lw_tbl := by
  unfold wsL_law_r11
  exact List.forall_mem_cons.mpr ⟨mt_6 _ (List.mem_of_getElem? (i := 152) rfl), List.forall_mem_cons.mpr ⟨mt_6 _ (List.mem_of_getElem? (i := 153) rfl), List.forall_mem_cons.mpr ⟨mt_6 _ (List.mem_of_getElem? (i := 154) rfl), List.forall_mem_cons.mpr ⟨mt_6 _ (List.mem_of_getElem? (i := 155) rfl), List.forall_mem_cons.mpr ⟨mt_6 _ (List.mem_of_getElem? (i := 157) rfl), List.forall_mem_cons.mpr ⟨mt_6 _ (List.mem_of_getElem? (i := 165) rfl), List.forall_mem_cons.mpr ⟨mt_6 _ (List.mem_of_getElem? (i := 166) rfl), List.forall_mem_cons.mpr ⟨mt_6 _ (List.mem_of_getElem? (i := 168) rfl), List.forall_mem_cons.mpr ⟨mt_6 _ (List.mem_of_getElem? (i := 169) rfl), List.forall_mem_cons.mpr ⟨mt_6 _ (List.mem_of_getElem? (i := 170) rfl), List.forall_mem_cons.mpr ⟨mt_6 _ (List.mem_of_getElem? (i := 171) rfl), List.forall_mem_cons.mpr ⟨mt_6 _ (List.mem_of_getElem? (i := 180) rfl), List.forall_mem_cons.mpr ⟨mt_6 _ (List.mem_of_getElem? (i := 181) rfl), List.forall_mem_cons.mpr ⟨mt_6 _ (List.mem_of_getElem? (i := 182) rfl), List.forall_mem_cons.mpr ⟨mt_6 _ (List.mem_of_getElem? (i := 183) rfl), List.forall_mem_cons.mpr ⟨mt_6 _ (List.mem_of_getElem? (i := 184) rfl), List.forall_mem_cons.mpr ⟨mt_6 _ (List.mem_of_getElem? (i := 185) rfl), List.forall_mem_cons.mpr ⟨mt_6 _ (List.mem_of_getElem? (i := 186) rfl), List.forall_mem_cons.mpr ⟨mt_6 _ (List.mem_of_getElem? (i := 187) rfl), List.forall_mem_cons.mpr ⟨mt_6 _ (List.mem_of_getElem? (i := 188) rfl), List.forall_mem_cons.mpr ⟨mt_6 _ (List.mem_of_getElem? (i := 189) rfl), List.forall_mem_cons.mpr ⟨mt_2 _ (List.mem_of_getElem? (i := 223) rfl), List.forall_mem_cons.mpr ⟨mt_2 _ (List.mem_of_getElem? (i := 224) rfl), List.forall_mem_cons.mpr ⟨mt_2 _ (List.mem_of_getElem? (i := 225) rfl), fun _ h => absurd h List.not_mem_nil⟩⟩⟩⟩⟩⟩⟩⟩⟩⟩⟩⟩⟩⟩⟩⟩⟩⟩⟩⟩⟩⟩⟩⟩
theorem ck_12 : ∀ w ∈ wsL_law_r12, w ∈ lw_tbl := by
  unfold wsL_law_r12
  exact List.forall_mem_cons.mpr ⟨mt_2 _ (List.mem_of_getElem? (i := 226) rfl), List.forall_mem_cons.mpr ⟨mt_1 _ (List.mem_of_getElem? (i := 43) rfl), List.forall_mem_cons.mpr ⟨mt_2 _ (List.mem_of_getElem? (i := 227) rfl), List.forall_mem_cons.mpr ⟨mt_2 _ (List.mem_of_getElem? (i := 228) rfl), List.forall_mem_cons.mpr ⟨mt_2 _ (List.mem_of_getElem? (i := 229) rfl), List.forall_mem_cons.mpr ⟨mt_2 _ (List.mem_of_getElem? (i := 230) rfl), List.forall_mem_cons.mpr ⟨mt_2 _ (List.mem_of_getElem? (i := 231) rfl), List.forall_mem_cons.mpr ⟨mt_2 _ (List.mem_of_getElem? (i := 232) rfl), List.forall_mem_cons.mpr ⟨mt_2 _ (List.mem_of_getElem? (i := 233) rfl), List.forall_mem_cons.mpr ⟨mt_2 _ (List.mem_of_getElem? (i := 235) rfl), List.forall_mem_cons.mpr ⟨mt_p _ (List.mem_of_getElem? (i := 0) rfl), List.forall_mem_cons.mpr ⟨mt_2 _ (List.mem_of_getElem? (i := 236) rfl), List.forall_mem_cons.mpr ⟨mt_2 _ (List.mem_of_getElem? (i := 237) rfl), List.forall_mem_cons.mpr ⟨mt_2 _ (List.mem_of_getElem? (i := 238) rfl), List.forall_mem_cons.mpr ⟨mt_2 _ (List.mem_of_getElem? (i := 239) rfl), List.forall_mem_cons.mpr ⟨mt_3 _ (List.mem_of_getElem? (i := 0) rfl), List.forall_mem_cons.mpr ⟨mt_3 _ (List.mem_of_getElem? (i := 1) rfl), List.forall_mem_cons.mpr ⟨mt_3 _ (List.mem_of_getElem? (i := 2) rfl), List.forall_mem_cons.mpr ⟨mt_3 _ (List.mem_of_getElem? (i := 3) rfl), List.forall_mem_cons.mpr ⟨mt_7 _ (List.mem_of_getElem? (i := 128) rfl), List.forall_mem_cons.mpr ⟨mt_7 _ (List.mem_of_getElem? (i := 129) rfl), List.forall_mem_cons.mpr ⟨mt_7 _ (List.mem_of_getElem? (i := 130) rfl), List.forall_mem_cons.mpr ⟨mt_7 _ (List.mem_of_getElem? (i := 131) rfl), List.forall_mem_cons.mpr ⟨mt_7 _ (List.mem_of_getElem? (i := 121) rfl), fun _ h => absurd h List.not_mem_nil⟩⟩⟩⟩⟩⟩⟩⟩⟩⟩⟩⟩⟩⟩⟩⟩⟩⟩⟩⟩⟩⟩⟩⟩
theorem ck_13 : ∀ w ∈ wsL_law_r13, w ∈ lw_tbl := by
  unfold wsL_law_r13
  exact List.forall_mem_cons.mpr ⟨mt_7 _ (List.mem_of_getElem? (i := 122) rfl), List.forall_mem_cons.mpr ⟨mt_7 _ (List.mem_of_getElem? (i := 123) rfl), List.forall_mem_cons.mpr ⟨mt_7 _ (List.mem_of_getElem? (i := 109) rfl), List.forall_mem_cons.mpr ⟨mt_7 _ (List.mem_of_getElem? (i := 111) rfl), List.forall_mem_cons.mpr ⟨mt_p _ (List.mem_of_getElem? (i := 46) rfl), List.forall_mem_cons.mpr ⟨mt_7 _ (List.mem_of_getElem? (i := 112) rfl), List.forall_mem_cons.mpr ⟨mt_3 _ (List.mem_of_getElem? (i := 4) rfl), List.forall_mem_cons.mpr ⟨mt_3 _ (List.mem_of_getElem? (i := 5) rfl), List.forall_mem_cons.mpr ⟨mt_3 _ (List.mem_of_getElem? (i := 6) rfl), List.forall_mem_cons.mpr ⟨mt_3 _ (List.mem_of_getElem? (i := 7) rfl), List.forall_mem_cons.mpr ⟨mt_1 _ (List.mem_of_getElem? (i := 48) rfl), List.forall_mem_cons.mpr ⟨mt_3 _ (List.mem_of_getElem? (i := 8) rfl), List.forall_mem_cons.mpr ⟨mt_3 _ (List.mem_of_getElem? (i := 9) rfl), List.forall_mem_cons.mpr ⟨mt_3 _ (List.mem_of_getElem? (i := 10) rfl), List.forall_mem_cons.mpr ⟨mt_3 _ (List.mem_of_getElem? (i := 11) rfl), List.forall_mem_cons.mpr ⟨mt_7 _ (List.mem_of_getElem? (i := 132) rfl), List.forall_mem_cons.mpr ⟨mt_7 _ (List.mem_of_getElem? (i := 133) rfl), List.forall_mem_cons.mpr ⟨mt_7 _ (List.mem_of_getElem? (i := 134) rfl), List.forall_mem_cons.mpr ⟨mt_7 _ (List.mem_of_getElem? (i := 135) rfl), List.forall_mem_cons.mpr ⟨mt_3 _ (List.mem_of_getElem? (i := 12) rfl), List.forall_mem_cons.mpr ⟨mt_3 _ (List.mem_of_getElem? (i := 13) rfl), List.forall_mem_cons.mpr ⟨mt_3 _ (List.mem_of_getElem? (i := 14) rfl), List.forall_mem_cons.mpr ⟨mt_3 _ (List.mem_of_getElem? (i := 15) rfl), List.forall_mem_cons.mpr ⟨mt_1 _ (List.mem_of_getElem? (i := 51) rfl), fun _ h => absurd h List.not_mem_nil⟩⟩⟩⟩⟩⟩⟩⟩⟩⟩⟩⟩⟩⟩⟩⟩⟩⟩⟩⟩⟩⟩⟩⟩
theorem ck_14 : ∀ w ∈ wsL_law_r14, w ∈ lw_tbl := by
  unfold wsL_law_r14
  exact List.forall_mem_cons.mpr ⟨mt_3 _ (List.mem_of_getElem? (i := 16) rfl), List.forall_mem_cons.mpr ⟨mt_3 _ (List.mem_of_getElem? (i := 17) rfl), List.forall_mem_cons.mpr ⟨mt_3 _ (List.mem_of_getElem? (i := 18) rfl), List.forall_mem_cons.mpr ⟨mt_3 _ (List.mem_of_getElem? (i := 19) rfl), List.forall_mem_cons.mpr ⟨mt_3 _ (List.mem_of_getElem? (i := 20) rfl), List.forall_mem_cons.mpr ⟨mt_3 _ (List.mem_of_getElem? (i := 21) rfl), List.forall_mem_cons.mpr ⟨mt_3 _ (List.mem_of_getElem? (i := 22) rfl), List.forall_mem_cons.mpr ⟨mt_7 _ (List.mem_of_getElem? (i := 136) rfl), List.forall_mem_cons.mpr ⟨mt_7 _ (List.mem_of_getElem? (i := 137) rfl), List.forall_mem_cons.mpr ⟨mt_7 _ (List.mem_of_getElem? (i := 138) rfl), List.forall_mem_cons.mpr ⟨mt_7 _ (List.mem_of_getElem? (i := 139) rfl), List.forall_mem_cons.mpr ⟨mt_7 _ (List.mem_of_getElem? (i := 140) rfl), List.forall_mem_cons.mpr ⟨mt_7 _ (List.mem_of_getElem? (i := 141) rfl), List.forall_mem_cons.mpr ⟨mt_7 _ (List.mem_of_getElem? (i := 142) rfl), List.forall_mem_cons.mpr ⟨mt_7 _ (List.mem_of_getElem? (i := 124) rfl), List.forall_mem_cons.mpr ⟨mt_7 _ (List.mem_of_getElem? (i := 126) rfl), List.forall_mem_cons.mpr ⟨mt_p _ (List.mem_of_getElem? (i := 48) rfl), List.forall_mem_cons.mpr ⟨mt_7 _ (List.mem_of_getElem? (i := 127) rfl), List.forall_mem_cons.mpr ⟨mt_3 _ (List.mem_of_getElem? (i := 24) rfl), List.forall_mem_cons.mpr ⟨mt_3 _ (List.mem_of_getElem? (i := 25) rfl), List.forall_mem_cons.mpr ⟨mt_3 _ (List.mem_of_getElem? (i := 26) rfl), List.forall_mem_cons.mpr ⟨mt_3 _ (List.mem_of_getElem? (i := 27) rfl), List.forall_mem_cons.mpr ⟨mt_3 _ (List.mem_of_getElem? (i := 45) rfl), List.forall_mem_cons.mpr ⟨mt_1 _ (List.mem_of_getElem? (i := 54) rfl), fun _ h => absurd h List.not_mem_nil⟩⟩⟩⟩⟩⟩⟩⟩⟩⟩⟩⟩⟩⟩⟩⟩⟩⟩⟩⟩⟩⟩⟩⟩
theorem ck_15 : ∀ w ∈ wsL_law_r15, w ∈ lw_tbl := by
  unfold wsL_law_r15
  exact List.forall_mem_cons.mpr ⟨mt_3 _ (List.mem_of_getElem? (i := 28) rfl), List.forall_mem_cons.mpr ⟨mt_3 _ (List.mem_of_getElem? (i := 29) rfl), List.forall_mem_cons.mpr ⟨mt_3 _ (List.mem_of_getElem? (i := 30) rfl), List.forall_mem_cons.mpr ⟨mt_3 _ (List.mem_of_getElem? (i := 31) rfl), List.forall_mem_cons.mpr ⟨mt_3 _ (List.mem_of_getElem? (i := 32) rfl), List.forall_mem_cons.mpr ⟨mt_3 _ (List.mem_of_getElem? (i := 33) rfl), List.forall_mem_cons.mpr ⟨mt_3 _ (List.mem_of_getElem? (i := 34) rfl), List.forall_mem_cons.mpr ⟨mt_3 _ (List.mem_of_getElem? (i := 35) rfl), List.forall_mem_cons.mpr ⟨mt_3 _ (List.mem_of_getElem? (i := 36) rfl), List.forall_mem_cons.mpr ⟨mt_3 _ (List.mem_of_getElem? (i := 38) rfl), List.forall_mem_cons.mpr ⟨mt_3 _ (List.mem_of_getElem? (i := 39) rfl), List.forall_mem_cons.mpr ⟨mt_3 _ (List.mem_of_getElem? (i := 40) rfl), List.forall_mem_cons.mpr ⟨mt_3 _ (List.mem_of_getElem? (i := 41) rfl), List.forall_mem_cons.mpr ⟨mt_3 _ (List.mem_of_getElem? (i := 42) rfl), List.forall_mem_cons.mpr ⟨mt_3 _ (List.mem_of_getElem? (i := 43) rfl), List.forall_mem_cons.mpr ⟨mt_3 _ (List.mem_of_getElem? (i := 44) rfl), List.forall_mem_cons.mpr ⟨mt_3 _ (List.mem_of_getElem? (i := 46) rfl), List.forall_mem_cons.mpr ⟨mt_3 _ (List.mem_of_getElem? (i := 47) rfl), List.forall_mem_cons.mpr ⟨mt_3 _ (List.mem_of_getElem? (i := 48) rfl), List.forall_mem_cons.mpr ⟨mt_3 _ (List.mem_of_getElem? (i := 49) rfl), List.forall_mem_cons.mpr ⟨mt_3 _ (List.mem_of_getElem? (i := 50) rfl), List.forall_mem_cons.mpr ⟨mt_3 _ (List.mem_of_getElem? (i := 51) rfl), List.forall_mem_cons.mpr ⟨mt_1 _ (List.mem_of_getElem? (i := 15) rfl), List.forall_mem_cons.mpr ⟨mt_3 _ (List.mem_of_getElem? (i := 52) rfl), fun _ h => absurd h List.not_mem_nil⟩⟩⟩⟩⟩⟩⟩⟩⟩⟩⟩⟩⟩⟩⟩⟩⟩⟩⟩⟩⟩⟩⟩⟩
theorem ck_16 : ∀ w ∈ wsL_law_r16, w ∈ lw_tbl := by
  unfold wsL_law_r16
  exact List.forall_mem_cons.mpr ⟨mt_3 _ (List.mem_of_getElem? (i := 53) rfl), List.forall_mem_cons.mpr ⟨mt_3 _ (List.mem_of_getElem? (i := 55) rfl), List.forall_mem_cons.mpr ⟨mt_p _ (List.mem_of_getElem? (i := 1) rfl), List.forall_mem_cons.mpr ⟨mt_3 _ (List.mem_of_getElem? (i := 56) rfl), List.forall_mem_cons.mpr ⟨mt_3 _ (List.mem_of_getElem? (i := 57) rfl), List.forall_mem_cons.mpr ⟨mt_3 _ (List.mem_of_getElem? (i := 58) rfl), List.forall_mem_cons.mpr ⟨mt_3 _ (List.mem_of_getElem? (i := 59) rfl), List.forall_mem_cons.mpr ⟨mt_7 _ (List.mem_of_getElem? (i := 143) rfl), List.forall_mem_cons.mpr ⟨mt_7 _ (List.mem_of_getElem? (i := 144) rfl), List.forall_mem_cons.mpr ⟨mt_7 _ (List.mem_of_getElem? (i := 145) rfl), List.forall_mem_cons.mpr ⟨mt_7 _ (List.mem_of_getElem? (i := 146) rfl), List.forall_mem_cons.mpr ⟨mt_7 _ (List.mem_of_getElem? (i := 151) rfl), List.forall_mem_cons.mpr ⟨mt_7 _ (List.mem_of_getElem? (i := 147) rfl), List.forall_mem_cons.mpr ⟨mt_7 _ (List.mem_of_getElem? (i := 149) rfl), List.forall_mem_cons.mpr ⟨mt_p _ (List.mem_of_getElem? (i := 49) rfl), List.forall_mem_cons.mpr ⟨mt_7 _ (List.mem_of_getElem? (i := 150) rfl), List.forall_mem_cons.mpr ⟨mt_7 _ (List.mem_of_getElem? (i := 152) rfl), List.forall_mem_cons.mpr ⟨mt_7 _ (List.mem_of_getElem? (i := 153) rfl), List.forall_mem_cons.mpr ⟨mt_7 _ (List.mem_of_getElem? (i := 154) rfl), List.forall_mem_cons.mpr ⟨mt_7 _ (List.mem_of_getElem? (i := 155) rfl), List.forall_mem_cons.mpr ⟨mt_7 _ (List.mem_of_getElem? (i := 157) rfl), List.forall_mem_cons.mpr ⟨mt_p _ (List.mem_of_getElem? (i := 50) rfl), List.forall_mem_cons.mpr ⟨mt_7 _ (List.mem_of_getElem? (i := 158) rfl), List.forall_mem_cons.mpr ⟨mt_3 _ (List.mem_of_getElem? (i := 60) rfl), fun _ h => absurd h List.not_mem_nil⟩⟩⟩⟩⟩⟩⟩⟩⟩⟩⟩⟩⟩⟩⟩⟩⟩⟩⟩⟩⟩⟩⟩⟩
theorem ck_17 : ∀ w ∈ wsL_law_r17, w ∈ lw_tbl := by
  unfold wsL_law_r17
  exact List.forall_mem_cons.mpr ⟨mt_3 _ (List.mem_of_getElem? (i := 61) rfl), List.forall_mem_cons.mpr ⟨mt_3 _ (List.mem_of_getElem? (i := 62) rfl), List.forall_mem_cons.mpr ⟨mt_3 _ (List.mem_of_getElem? (i := 63) rfl), List.forall_mem_cons.mpr ⟨mt_3 _ (List.mem_of_getElem? (i := 64) rfl), List.forall_mem_cons.mpr ⟨mt_3 _ (List.mem_of_getElem? (i := 65) rfl), List.forall_mem_cons.mpr ⟨mt_3 _ (List.mem_of_getElem? (i := 66) rfl), List.forall_mem_cons.mpr ⟨mt_3 _ (List.mem_of_getElem? (i := 67) rfl), List.forall_mem_cons.mpr ⟨mt_3 _ (List.mem_of_getElem? (i := 68) rfl), List.forall_mem_cons.mpr ⟨mt_7 _ (List.mem_of_getElem? (i := 159) rfl), List.forall_mem_cons.mpr ⟨mt_7 _ (List.mem_of_getElem? (i := 160) rfl), List.forall_mem_cons.mpr ⟨mt_7 _ (List.mem_of_getElem? (i := 161) rfl), List.forall_mem_cons.mpr ⟨mt_7 _ (List.mem_of_getElem? (i := 162) rfl), List.forall_mem_cons.mpr ⟨mt_3 _ (List.mem_of_getElem? (i := 69) rfl), List.forall_mem_cons.mpr ⟨mt_3 _ (List.mem_of_getElem? (i := 70) rfl), List.forall_mem_cons.mpr ⟨mt_3 _ (List.mem_of_getElem? (i := 71) rfl), List.forall_mem_cons.mpr ⟨mt_3 _ (List.mem_of_getElem? (i := 72) rfl), List.forall_mem_cons.mpr ⟨mt_3 _ (List.mem_of_getElem? (i := 73) rfl), List.forall_mem_cons.mpr ⟨mt_1 _ (List.mem_of_getElem? (i := 62) rfl), List.forall_mem_cons.mpr ⟨mt_7 _ (List.mem_of_getElem? (i := 163) rfl), List.forall_mem_cons.mpr ⟨mt_7 _ (List.mem_of_getElem? (i := 164) rfl), List.forall_mem_cons.mpr ⟨mt_7 _ (List.mem_of_getElem? (i := 165) rfl), List.forall_mem_cons.mpr ⟨mt_7 _ (List.mem_of_getElem? (i := 166) rfl), List.forall_mem_cons.mpr ⟨mt_7 _ (List.mem_of_getElem? (i := 167) rfl), List.forall_mem_cons.mpr ⟨mt_3 _ (List.mem_of_getElem? (i := 74) rfl), fun _ h => absurd h List.not_mem_nil⟩⟩⟩⟩⟩⟩⟩⟩⟩⟩⟩⟩⟩⟩⟩⟩⟩⟩⟩⟩⟩⟩⟩⟩
theorem ck_18 : ∀ w ∈ wsL_law_r18, w ∈ lw_tbl := by
  unfold wsL_law_r18
  exact List.forall_mem_cons.mpr ⟨mt_3 _ (List.mem_of_getElem? (i := 75) rfl), List.forall_mem_cons.mpr ⟨mt_3 _ (List.mem_of_getElem? (i := 76) rfl), List.forall_mem_cons.mpr ⟨mt_3 _ (List.mem_of_getElem? (i := 77) rfl), List.forall_mem_cons.mpr ⟨mt_3 _ (List.mem_of_getElem? (i := 78) rfl), List.forall_mem_cons.mpr ⟨mt_3 _ (List.mem_of_getElem? (i := 80) rfl), List.forall_mem_cons.mpr ⟨mt_p _ (List.mem_of_getElem? (i := 2) rfl), List.forall_mem_cons.mpr ⟨mt_3 _ (List.mem_of_getElem? (i := 81) rfl), List.forall_mem_cons.mpr ⟨mt_7 _ (List.mem_of_getElem? (i := 168) rfl), List.forall_mem_cons.mpr ⟨mt_7 _ (List.mem_of_getElem? (i := 169) rfl), List.forall_mem_cons.mpr ⟨mt_7 _ (List.mem_of_getElem? (i := 170) rfl), List.forall_mem_cons.mpr ⟨mt_7 _ (List.mem_of_getElem? (i := 171) rfl), List.forall_mem_cons.mpr ⟨mt_6 _ (List.mem_of_getElem? (i := 156) rfl), List.forall_mem_cons.mpr ⟨mt_3 _ (List.mem_of_getElem? (i := 82) rfl), List.forall_mem_cons.mpr ⟨mt_3 _ (List.mem_of_getElem? (i := 83) rfl), List.forall_mem_cons.mpr ⟨mt_3 _ (List.mem_of_getElem? (i := 84) rfl), List.forall_mem_cons.mpr ⟨mt_3 _ (List.mem_of_getElem? (i := 85) rfl), List.forall_mem_cons.mpr ⟨mt_1 _ (List.mem_of_getElem? (i := 105) rfl), List.forall_mem_cons.mpr ⟨mt_3 _ (List.mem_of_getElem? (i := 86) rfl), List.forall_mem_cons.mpr ⟨mt_3 _ (List.mem_of_getElem? (i := 87) rfl), List.forall_mem_cons.mpr ⟨mt_3 _ (List.mem_of_getElem? (i := 88) rfl), List.forall_mem_cons.mpr ⟨mt_3 _ (List.mem_of_getElem? (i := 89) rfl), List.forall_mem_cons.mpr ⟨mt_3 _ (List.mem_of_getElem? (i := 94) rfl), List.forall_mem_cons.mpr ⟨mt_3 _ (List.mem_of_getElem? (i := 95) rfl), List.forall_mem_cons.mpr ⟨mt_1 _ (List.mem_of_getElem? (i := 15) rfl), fun _ h => absurd h List.not_mem_nil⟩⟩⟩⟩⟩⟩⟩⟩⟩⟩⟩⟩⟩⟩⟩⟩⟩⟩⟩⟩⟩⟩⟩⟩
theorem ck_19 : ∀ w ∈ wsL_law_r19, w ∈ lw_tbl := by
  unfold wsL_law_r19
  exact List.forall_mem_cons.mpr ⟨mt_3 _ (List.mem_of_getElem? (i := 96) rfl), List.forall_mem_cons.mpr ⟨mt_1 _ (List.mem_of_getElem? (i := 104) rfl), List.forall_mem_cons.mpr ⟨mt_3 _ (List.mem_of_getElem? (i := 90) rfl), List.forall_mem_cons.mpr ⟨mt_3 _ (List.mem_of_getElem? (i := 91) rfl), List.forall_mem_cons.mpr ⟨mt_3 _ (List.mem_of_getElem? (i := 92) rfl), List.forall_mem_cons.mpr ⟨mt_3 _ (List.mem_of_getElem? (i := 93) rfl), List.forall_mem_cons.mpr ⟨mt_3 _ (List.mem_of_getElem? (i := 97) rfl), List.forall_mem_cons.mpr ⟨mt_3 _ (List.mem_of_getElem? (i := 99) rfl), List.forall_mem_cons.mpr ⟨mt_p _ (List.mem_of_getElem? (i := 3) rfl), List.forall_mem_cons.mpr ⟨mt_3 _ (List.mem_of_getElem? (i := 100) rfl), List.forall_mem_cons.mpr ⟨mt_3 _ (List.mem_of_getElem? (i := 101) rfl), List.forall_mem_cons.mpr ⟨mt_3 _ (List.mem_of_getElem? (i := 102) rfl), List.forall_mem_cons.mpr ⟨mt_3 _ (List.mem_of_getElem? (i := 103) rfl), List.forall_mem_cons.mpr ⟨mt_3 _ (List.mem_of_getElem? (i := 104) rfl), List.forall_mem_cons.mpr ⟨mt_3 _ (List.mem_of_getElem? (i := 105) rfl), List.forall_mem_cons.mpr ⟨mt_3 _ (List.mem_of_getElem? (i := 106) rfl), List.forall_mem_cons.mpr ⟨mt_3 _ (List.mem_of_getElem? (i := 107) rfl), List.forall_mem_cons.mpr ⟨mt_3 _ (List.mem_of_getElem? (i := 108) rfl), List.forall_mem_cons.mpr ⟨mt_3 _ (List.mem_of_getElem? (i := 110) rfl), List.forall_mem_cons.mpr ⟨mt_p _ (List.mem_of_getElem? (i := 4) rfl), List.forall_mem_cons.mpr ⟨mt_3 _ (List.mem_of_getElem? (i := 111) rfl), List.forall_mem_cons.mpr ⟨mt_1 _ (List.mem_of_getElem? (i := 108) rfl), List.forall_mem_cons.mpr ⟨mt_1 _ (List.mem_of_getElem? (i := 112) rfl), List.forall_mem_cons.mpr ⟨mt_1 _ (List.mem_of_getElem? (i := 117) rfl), fun _ h => absurd h List.not_mem_nil⟩⟩⟩⟩⟩⟩⟩⟩⟩⟩⟩⟩⟩⟩⟩⟩⟩⟩⟩⟩⟩⟩⟩⟩
theorem ck_20 : ∀ w ∈ wsL_law_r20, w ∈ lw_tbl := by
  unfold wsL_law_r20
  exact List.forall_mem_cons.mpr ⟨mt_1 _ (List.mem_of_getElem? (i := 120) rfl), List.forall_mem_cons.mpr ⟨mt_1 _ (List.mem_of_getElem? (i := 123) rfl), List.forall_mem_cons.mpr ⟨mt_1 _ (List.mem_of_getElem? (i := 126) rfl), List.forall_mem_cons.mpr ⟨mt_3 _ (List.mem_of_getElem? (i := 113) rfl), List.forall_mem_cons.mpr ⟨mt_3 _ (List.mem_of_getElem? (i := 115) rfl), List.forall_mem_cons.mpr ⟨mt_p _ (List.mem_of_getElem? (i := 5) rfl), List.forall_mem_cons.mpr ⟨mt_3 _ (List.mem_of_getElem? (i := 116) rfl), List.forall_mem_cons.mpr ⟨mt_3 _ (List.mem_of_getElem? (i := 117) rfl), List.forall_mem_cons.mpr ⟨mt_3 _ (List.mem_of_getElem? (i := 118) rfl), List.forall_mem_cons.mpr ⟨mt_3 _ (List.mem_of_getElem? (i := 119) rfl), List.forall_mem_cons.mpr ⟨mt_1 _ (List.mem_of_getElem? (i := 16) rfl), List.forall_mem_cons.mpr ⟨mt_3 _ (List.mem_of_getElem? (i := 120) rfl), List.forall_mem_cons.mpr ⟨mt_9 _ (List.mem_of_getElem? (i := 75) rfl), List.forall_mem_cons.mpr ⟨mt_3 _ (List.mem_of_getElem? (i := 121) rfl), List.forall_mem_cons.mpr ⟨mt_3 _ (List.mem_of_getElem? (i := 122) rfl), List.forall_mem_cons.mpr ⟨mt_3 _ (List.mem_of_getElem? (i := 123) rfl), List.forall_mem_cons.mpr ⟨mt_3 _ (List.mem_of_getElem? (i := 124) rfl), List.forall_mem_cons.mpr ⟨mt_3 _ (List.mem_of_getElem? (i := 125) rfl), List.forall_mem_cons.mpr ⟨mt_9 _ (List.mem_of_getElem? (i := 76) rfl), List.forall_mem_cons.mpr ⟨mt_3 _ (List.mem_of_getElem? (i := 127) rfl), List.forall_mem_cons.mpr ⟨mt_3 _ (List.mem_of_getElem? (i := 128) rfl), List.forall_mem_cons.mpr ⟨mt_3 _ (List.mem_of_getElem? (i := 129) rfl), List.forall_mem_cons.mpr ⟨mt_3 _ (List.mem_of_getElem? (i := 130) rfl), List.forall_mem_cons.mpr ⟨mt_3 _ (List.mem_of_getElem? (i := 131) rfl), fun _ h => absurd h List.not_mem_nil⟩⟩⟩⟩⟩⟩⟩⟩⟩⟩⟩⟩⟩⟩⟩⟩⟩⟩⟩⟩⟩⟩⟩⟩
theorem ck_21 : ∀ w ∈ wsL_law_r21, w ∈ lw_tbl := by
  unfold wsL_law_r21
  exact List.forall_mem_cons.mpr ⟨mt_3 _ (List.mem_of_getElem? (i := 132) rfl), List.forall_mem_cons.mpr ⟨mt_3 _ (List.mem_of_getElem? (i := 133) rfl), List.forall_mem_cons.mpr ⟨mt_3 _ (List.mem_of_getElem? (i := 134) rfl), List.forall_mem_cons.mpr ⟨mt_3 _ (List.mem_of_getElem? (i := 135) rfl), List.forall_mem_cons.mpr ⟨mt_3 _ (List.mem_of_getElem? (i := 136) rfl), List.forall_mem_cons.mpr ⟨mt_1 _ (List.mem_of_getElem? (i := 17) rfl), List.forall_mem_cons.mpr ⟨mt_3 _ (List.mem_of_getElem? (i := 137) rfl), List.forall_mem_cons.mpr ⟨mt_3 _ (List.mem_of_getElem? (i := 138) rfl), List.forall_mem_cons.mpr ⟨mt_3 _ (List.mem_of_getElem? (i := 139) rfl), List.forall_mem_cons.mpr ⟨mt_3 _ (List.mem_of_getElem? (i := 140) rfl), List.forall_mem_cons.mpr ⟨mt_3 _ (List.mem_of_getElem? (i := 141) rfl), List.forall_mem_cons.mpr ⟨mt_3 _ (List.mem_of_getElem? (i := 143) rfl), List.forall_mem_cons.mpr ⟨mt_3 _ (List.mem_of_getElem? (i := 144) rfl), List.forall_mem_cons.mpr ⟨mt_1 _ (List.mem_of_getElem? (i := 18) rfl), List.forall_mem_cons.mpr ⟨mt_3 _ (List.mem_of_getElem? (i := 145) rfl), List.forall_mem_cons.mpr ⟨mt_3 _ (List.mem_of_getElem? (i := 146) rfl), List.forall_mem_cons.mpr ⟨mt_3 _ (List.mem_of_getElem? (i := 147) rfl), List.forall_mem_cons.mpr ⟨mt_1 _ (List.mem_of_getElem? (i := 19) rfl), List.forall_mem_cons.mpr ⟨mt_3 _ (List.mem_of_getElem? (i := 148) rfl), List.forall_mem_cons.mpr ⟨mt_3 _ (List.mem_of_getElem? (i := 149) rfl), List.forall_mem_cons.mpr ⟨mt_3 _ (List.mem_of_getElem? (i := 150) rfl), List.forall_mem_cons.mpr ⟨mt_3 _ (List.mem_of_getElem? (i := 151) rfl), List.forall_mem_cons.mpr ⟨mt_3 _ (List.mem_of_getElem? (i := 152) rfl), List.forall_mem_cons.mpr ⟨mt_3 _ (List.mem_of_getElem? (i := 153) rfl), fun _ h => absurd h List.not_mem_nil⟩⟩⟩⟩⟩⟩⟩⟩⟩⟩⟩⟩⟩⟩⟩⟩⟩⟩⟩⟩⟩⟩⟩⟩
theorem ck_22 : ∀ w ∈ wsL_law_r22, w ∈ lw_tbl := by
  unfold wsL_law_r22
  exact List.forall_mem_cons.mpr ⟨mt_3 _ (List.mem_of_getElem? (i := 154) rfl), List.forall_mem_cons.mpr ⟨mt_3 _ (List.mem_of_getElem? (i := 155) rfl), List.forall_mem_cons.mpr ⟨mt_3 _ (List.mem_of_getElem? (i := 156) rfl), List.forall_mem_cons.mpr ⟨mt_3 _ (List.mem_of_getElem? (i := 157) rfl), List.forall_mem_cons.mpr ⟨mt_3 _ (List.mem_of_getElem? (i := 158) rfl), List.forall_mem_cons.mpr ⟨mt_3 _ (List.mem_of_getElem? (i := 159) rfl), List.forall_mem_cons.mpr ⟨mt_3 _ (List.mem_of_getElem? (i := 161) rfl), List.forall_mem_cons.mpr ⟨mt_3 _ (List.mem_of_getElem? (i := 163) rfl), List.forall_mem_cons.mpr ⟨mt_3 _ (List.mem_of_getElem? (i := 165) rfl), List.forall_mem_cons.mpr ⟨mt_3 _ (List.mem_of_getElem? (i := 167) rfl), List.forall_mem_cons.mpr ⟨mt_p _ (List.mem_of_getElem? (i := 6) rfl), List.forall_mem_cons.mpr ⟨mt_3 _ (List.mem_of_getElem? (i := 168) rfl), List.forall_mem_cons.mpr ⟨mt_3 _ (List.mem_of_getElem? (i := 169) rfl), List.forall_mem_cons.mpr ⟨mt_3 _ (List.mem_of_getElem? (i := 171) rfl), List.forall_mem_cons.mpr ⟨mt_p _ (List.mem_of_getElem? (i := 7) rfl), List.forall_mem_cons.mpr ⟨mt_3 _ (List.mem_of_getElem? (i := 172) rfl), List.forall_mem_cons.mpr ⟨mt_3 _ (List.mem_of_getElem? (i := 173) rfl), List.forall_mem_cons.mpr ⟨mt_3 _ (List.mem_of_getElem? (i := 174) rfl), List.forall_mem_cons.mpr ⟨mt_3 _ (List.mem_of_getElem? (i := 175) rfl), List.forall_mem_cons.mpr ⟨mt_3 _ (List.mem_of_getElem? (i := 180) rfl), List.forall_mem_cons.mpr ⟨mt_3 _ (List.mem_of_getElem? (i := 182) rfl), List.forall_mem_cons.mpr ⟨mt_p _ (List.mem_of_getElem? (i := 8) rfl), List.forall_mem_cons.mpr ⟨mt_3 _ (List.mem_of_getElem? (i := 183) rfl), List.forall_mem_cons.mpr ⟨mt_3 _ (List.mem_of_getElem? (i := 184) rfl), fun _ h => absurd h List.not_mem_nil⟩⟩⟩⟩⟩⟩⟩⟩⟩⟩⟩⟩⟩⟩⟩⟩⟩⟩⟩⟩⟩⟩⟩⟩
theorem ck_23 : ∀ w ∈ wsL_law_r23, w ∈ lw_tbl := by
  unfold wsL_law_r23
  exact List.forall_mem_cons.mpr ⟨mt_3 _ (List.mem_of_getElem? (i := 186) rfl), List.forall_mem_cons.mpr ⟨mt_p _ (List.mem_of_getElem? (i := 9) rfl), List.forall_mem_cons.mpr ⟨mt_3 _ (List.mem_of_getElem? (i := 187) rfl), List.forall_mem_cons.mpr ⟨mt_3 _ (List.mem_of_getElem? (i := 188) rfl), List.forall_mem_cons.mpr ⟨mt_3 _ (List.mem_of_getElem? (i := 190) rfl), List.forall_mem_cons.mpr ⟨mt_p _ (List.mem_of_getElem? (i := 10) rfl), List.forall_mem_cons.mpr ⟨mt_3 _ (List.mem_of_getElem? (i := 191) rfl), List.forall_mem_cons.mpr ⟨mt_3 _ (List.mem_of_getElem? (i := 194) rfl), List.forall_mem_cons.mpr ⟨mt_3 _ (List.mem_of_getElem? (i := 196) rfl), List.forall_mem_cons.mpr ⟨mt_p _ (List.mem_of_getElem? (i := 11) rfl), List.forall_mem_cons.mpr ⟨mt_3 _ (List.mem_of_getElem? (i := 197) rfl), List.forall_mem_cons.mpr ⟨mt_3 _ (List.mem_of_getElem? (i := 199) rfl), List.forall_mem_cons.mpr ⟨mt_3 _ (List.mem_of_getElem? (i := 200) rfl), List.forall_mem_cons.mpr ⟨mt_3 _ (List.mem_of_getElem? (i := 201) rfl), List.forall_mem_cons.mpr ⟨mt_3 _ (List.mem_of_getElem? (i := 202) rfl), List.forall_mem_cons.mpr ⟨mt_3 _ (List.mem_of_getElem? (i := 204) rfl), List.forall_mem_cons.mpr ⟨mt_3 _ (List.mem_of_getElem? (i := 206) rfl), List.forall_mem_cons.mpr ⟨mt_p _ (List.mem_of_getElem? (i := 12) rfl), List.forall_mem_cons.mpr ⟨mt_3 _ (List.mem_of_getElem? (i := 207) rfl), List.forall_mem_cons.mpr ⟨mt_3 _ (List.mem_of_getElem? (i := 211) rfl), List.forall_mem_cons.mpr ⟨mt_3 _ (List.mem_of_getElem? (i := 213) rfl), List.forall_mem_cons.mpr ⟨mt_p _ (List.mem_of_getElem? (i := 13) rfl), List.forall_mem_cons.mpr ⟨mt_3 _ (List.mem_of_getElem? (i := 214) rfl), List.forall_mem_cons.mpr ⟨mt_3 _ (List.mem_of_getElem? (i := 216) rfl), fun _ h => absurd h List.not_mem_nil⟩⟩⟩⟩⟩⟩⟩⟩⟩⟩⟩⟩⟩⟩⟩⟩⟩⟩⟩⟩⟩⟩⟩⟩
theorem ck_24 : ∀ w ∈ wsL_law_r24, w ∈ lw_tbl := by
  unfold wsL_law_r24
  exact List.forall_mem_cons.mpr ⟨mt_3 _ (List.mem_of_getElem? (i := 218) rfl), List.forall_mem_cons.mpr ⟨mt_p _ (List.mem_of_getElem? (i := 14) rfl), List.forall_mem_cons.mpr ⟨mt_3 _ (List.mem_of_getElem? (i := 219) rfl), List.forall_mem_cons.mpr ⟨mt_3 _ (List.mem_of_getElem? (i := 220) rfl), List.forall_mem_cons.mpr ⟨mt_3 _ (List.mem_of_getElem? (i := 222) rfl), List.forall_mem_cons.mpr ⟨mt_p _ (List.mem_of_getElem? (i := 15) rfl), List.forall_mem_cons.mpr ⟨mt_3 _ (List.mem_of_getElem? (i := 223) rfl), List.forall_mem_cons.mpr ⟨mt_3 _ (List.mem_of_getElem? (i := 224) rfl), List.forall_mem_cons.mpr ⟨mt_3 _ (List.mem_of_getElem? (i := 226) rfl), List.forall_mem_cons.mpr ⟨mt_p _ (List.mem_of_getElem? (i := 16) rfl), List.forall_mem_cons.mpr ⟨mt_3 _ (List.mem_of_getElem? (i := 227) rfl), List.forall_mem_cons.mpr ⟨mt_3 _ (List.mem_of_getElem? (i := 228) rfl), List.forall_mem_cons.mpr ⟨mt_3 _ (List.mem_of_getElem? (i := 229) rfl), List.forall_mem_cons.mpr ⟨mt_3 _ (List.mem_of_getElem? (i := 230) rfl), List.forall_mem_cons.mpr ⟨mt_3 _ (List.mem_of_getElem? (i := 236) rfl), List.forall_mem_cons.mpr ⟨mt_3 _ (List.mem_of_getElem? (i := 237) rfl), List.forall_mem_cons.mpr ⟨mt_3 _ (List.mem_of_getElem? (i := 238) rfl), List.forall_mem_cons.mpr ⟨mt_3 _ (List.mem_of_getElem? (i := 239) rfl), List.forall_mem_cons.mpr ⟨mt_4 _ (List.mem_of_getElem? (i := 0) rfl), List.forall_mem_cons.mpr ⟨mt_4 _ (List.mem_of_getElem? (i := 1) rfl), List.forall_mem_cons.mpr ⟨mt_4 _ (List.mem_of_getElem? (i := 2) rfl), List.forall_mem_cons.mpr ⟨mt_4 _ (List.mem_of_getElem? (i := 3) rfl), List.forall_mem_cons.mpr ⟨mt_4 _ (List.mem_of_getElem? (i := 5) rfl), List.forall_mem_cons.mpr ⟨mt_p _ (List.mem_of_getElem? (i := 17) rfl), fun _ h => absurd h List.not_mem_nil⟩⟩⟩⟩⟩⟩⟩⟩⟩⟩⟩⟩⟩⟩⟩⟩⟩⟩⟩⟩⟩⟩⟩⟩
theorem ck_25 : ∀ w ∈ wsL_law_r25, w ∈ lw_tbl := by
  unfold wsL_law_r25
  exact List.forall_mem_cons.mpr ⟨mt_4 _ (List.mem_of_getElem? (i := 6) rfl), List.forall_mem_cons.mpr ⟨mt_4 _ (List.mem_of_getElem? (i := 7) rfl), List.forall_mem_cons.mpr ⟨mt_4 _ (List.mem_of_getElem? (i := 9) rfl), List.forall_mem_cons.mpr ⟨mt_p _ (List.mem_of_getElem? (i := 18) rfl), List.forall_mem_cons.mpr ⟨mt_4 _ (List.mem_of_getElem? (i := 10) rfl), List.forall_mem_cons.mpr ⟨mt_4 _ (List.mem_of_getElem? (i := 11) rfl), List.forall_mem_cons.mpr ⟨mt_4 _ (List.mem_of_getElem? (i := 13) rfl), List.forall_mem_cons.mpr ⟨mt_p _ (List.mem_of_getElem? (i := 19) rfl), List.forall_mem_cons.mpr ⟨mt_4 _ (List.mem_of_getElem? (i := 14) rfl), List.forall_mem_cons.mpr ⟨mt_4 _ (List.mem_of_getElem? (i := 17) rfl), List.forall_mem_cons.mpr ⟨mt_4 _ (List.mem_of_getElem? (i := 18) rfl), List.forall_mem_cons.mpr ⟨mt_4 _ (List.mem_of_getElem? (i := 19) rfl), List.forall_mem_cons.mpr ⟨mt_4 _ (List.mem_of_getElem? (i := 20) rfl), List.forall_mem_cons.mpr ⟨mt_7 _ (List.mem_of_getElem? (i := 172) rfl), List.forall_mem_cons.mpr ⟨mt_7 _ (List.mem_of_getElem? (i := 173) rfl), List.forall_mem_cons.mpr ⟨mt_7 _ (List.mem_of_getElem? (i := 174) rfl), List.forall_mem_cons.mpr ⟨mt_7 _ (List.mem_of_getElem? (i := 175) rfl), List.forall_mem_cons.mpr ⟨mt_6 _ (List.mem_of_getElem? (i := 158) rfl), List.forall_mem_cons.mpr ⟨mt_6 _ (List.mem_of_getElem? (i := 159) rfl), List.forall_mem_cons.mpr ⟨mt_6 _ (List.mem_of_getElem? (i := 164) rfl), List.forall_mem_cons.mpr ⟨mt_6 _ (List.mem_of_getElem? (i := 150) rfl), List.forall_mem_cons.mpr ⟨mt_6 _ (List.mem_of_getElem? (i := 161) rfl), List.forall_mem_cons.mpr ⟨mt_7 _ (List.mem_of_getElem? (i := 176) rfl), List.forall_mem_cons.mpr ⟨mt_7 _ (List.mem_of_getElem? (i := 178) rfl), fun _ h => absurd h List.not_mem_nil⟩⟩⟩⟩⟩⟩⟩⟩⟩⟩⟩⟩⟩⟩⟩⟩⟩⟩⟩⟩⟩⟩⟩⟩
theorem ck_26 : ∀ w ∈ wsL_law_r26, w ∈ lw_tbl := by
  unfold wsL_law_r26
  exact List.forall_mem_cons.mpr ⟨mt_p _ (List.mem_of_getElem? (i := 51) rfl), List.forall_mem_cons.mpr ⟨mt_7 _ (List.mem_of_getElem? (i := 179) rfl), List.forall_mem_cons.mpr ⟨mt_7 _ (List.mem_of_getElem? (i := 180) rfl), List.forall_mem_cons.mpr ⟨mt_7 _ (List.mem_of_getElem? (i := 182) rfl), List.forall_mem_cons.mpr ⟨mt_p _ (List.mem_of_getElem? (i := 52) rfl), List.forall_mem_cons.mpr ⟨mt_7 _ (List.mem_of_getElem? (i := 183) rfl), List.forall_mem_cons.mpr ⟨mt_6 _ (List.mem_of_getElem? (i := 160) rfl), List.forall_mem_cons.mpr ⟨mt_7 _ (List.mem_of_getElem? (i := 188) rfl), List.forall_mem_cons.mpr ⟨mt_6 _ (List.mem_of_getElem? (i := 163) rfl), List.forall_mem_cons.mpr ⟨mt_6 _ (List.mem_of_getElem? (i := 162) rfl), List.forall_mem_cons.mpr ⟨mt_7 _ (List.mem_of_getElem? (i := 189) rfl), List.forall_mem_cons.mpr ⟨mt_7 _ (List.mem_of_getElem? (i := 190) rfl), List.forall_mem_cons.mpr ⟨mt_7 _ (List.mem_of_getElem? (i := 184) rfl), List.forall_mem_cons.mpr ⟨mt_7 _ (List.mem_of_getElem? (i := 186) rfl), List.forall_mem_cons.mpr ⟨mt_p _ (List.mem_of_getElem? (i := 53) rfl), List.forall_mem_cons.mpr ⟨mt_7 _ (List.mem_of_getElem? (i := 187) rfl), List.forall_mem_cons.mpr ⟨mt_7 _ (List.mem_of_getElem? (i := 191) rfl), List.forall_mem_cons.mpr ⟨mt_7 _ (List.mem_of_getElem? (i := 193) rfl), List.forall_mem_cons.mpr ⟨mt_p _ (List.mem_of_getElem? (i := 54) rfl), List.forall_mem_cons.mpr ⟨mt_7 _ (List.mem_of_getElem? (i := 194) rfl), List.forall_mem_cons.mpr ⟨mt_7 _ (List.mem_of_getElem? (i := 195) rfl), List.forall_mem_cons.mpr ⟨mt_7 _ (List.mem_of_getElem? (i := 197) rfl), List.forall_mem_cons.mpr ⟨mt_p _ (List.mem_of_getElem? (i := 55) rfl), List.forall_mem_cons.mpr ⟨mt_7 _ (List.mem_of_getElem? (i := 198) rfl), fun _ h => absurd h List.not_mem_nil⟩⟩⟩⟩⟩⟩⟩⟩⟩⟩⟩⟩⟩⟩⟩⟩⟩⟩⟩⟩⟩⟩⟩⟩
theorem ck_27 : ∀ w ∈ wsL_law_r27, w ∈ lw_tbl := by
  unfold wsL_law_r27
  exact List.forall_mem_cons.mpr ⟨mt_7 _ (List.mem_of_getElem? (i := 199) rfl), List.forall_mem_cons.mpr ⟨mt_7 _ (List.mem_of_getElem? (i := 200) rfl), List.forall_mem_cons.mpr ⟨mt_7 _ (List.mem_of_getElem? (i := 201) rfl), List.forall_mem_cons.mpr ⟨mt_7 _ (List.mem_of_getElem? (i := 202) rfl), List.forall_mem_cons.mpr ⟨mt_7 _ (List.mem_of_getElem? (i := 203) rfl), List.forall_mem_cons.mpr ⟨mt_7 _ (List.mem_of_getElem? (i := 204) rfl), List.forall_mem_cons.mpr ⟨mt_7 _ (List.mem_of_getElem? (i := 205) rfl), List.forall_mem_cons.mpr ⟨mt_7 _ (List.mem_of_getElem? (i := 206) rfl), List.forall_mem_cons.mpr ⟨mt_7 _ (List.mem_of_getElem? (i := 207) rfl), List.forall_mem_cons.mpr ⟨mt_7 _ (List.mem_of_getElem? (i := 209) rfl), List.forall_mem_cons.mpr ⟨mt_p _ (List.mem_of_getElem? (i := 56) rfl), List.forall_mem_cons.mpr ⟨mt_7 _ (List.mem_of_getElem? (i := 210) rfl), List.forall_mem_cons.mpr ⟨mt_7 _ (List.mem_of_getElem? (i := 211) rfl), List.forall_mem_cons.mpr ⟨mt_7 _ (List.mem_of_getElem? (i := 213) rfl), List.forall_mem_cons.mpr ⟨mt_p _ (List.mem_of_getElem? (i := 57) rfl), List.forall_mem_cons.mpr ⟨mt_7 _ (List.mem_of_getElem? (i := 214) rfl), List.forall_mem_cons.mpr ⟨mt_7 _ (List.mem_of_getElem? (i := 215) rfl), List.forall_mem_cons.mpr ⟨mt_7 _ (List.mem_of_getElem? (i := 220) rfl), List.forall_mem_cons.mpr ⟨mt_7 _ (List.mem_of_getElem? (i := 221) rfl), List.forall_mem_cons.mpr ⟨mt_7 _ (List.mem_of_getElem? (i := 222) rfl), List.forall_mem_cons.mpr ⟨mt_7 _ (List.mem_of_getElem? (i := 216) rfl), List.forall_mem_cons.mpr ⟨mt_7 _ (List.mem_of_getElem? (i := 218) rfl), List.forall_mem_cons.mpr ⟨mt_p _ (List.mem_of_getElem? (i := 58) rfl), List.forall_mem_cons.mpr ⟨mt_7 _ (List.mem_of_getElem? (i := 219) rfl), fun _ h => absurd h List.not_mem_nil⟩⟩⟩⟩⟩⟩⟩⟩⟩⟩⟩⟩⟩⟩⟩⟩⟩⟩⟩⟩⟩⟩⟩⟩
theorem ck_28 : ∀ w ∈ wsL_law_r28, w ∈ lw_tbl := by
  unfold wsL_law_r28
  exact List.forall_mem_cons.mpr ⟨mt_7 _ (List.mem_of_getElem? (i := 223) rfl), List.forall_mem_cons.mpr ⟨mt_7 _ (List.mem_of_getElem? (i := 225) rfl), List.forall_mem_cons.mpr ⟨mt_p _ (List.mem_of_getElem? (i := 59) rfl), List.forall_mem_cons.mpr ⟨mt_7 _ (List.mem_of_getElem? (i := 226) rfl), List.forall_mem_cons.mpr ⟨mt_7 _ (List.mem_of_getElem? (i := 227) rfl), List.forall_mem_cons.mpr ⟨mt_7 _ (List.mem_of_getElem? (i := 229) rfl), List.forall_mem_cons.mpr ⟨mt_p _ (List.mem_of_getElem? (i := 60) rfl), List.forall_mem_cons.mpr ⟨mt_7 _ (List.mem_of_getElem? (i := 230) rfl), List.forall_mem_cons.mpr ⟨mt_7 _ (List.mem_of_getElem? (i := 231) rfl), List.forall_mem_cons.mpr ⟨mt_7 _ (List.mem_of_getElem? (i := 232) rfl), List.forall_mem_cons.mpr ⟨mt_7 _ (List.mem_of_getElem? (i := 234) rfl), List.forall_mem_cons.mpr ⟨mt_p _ (List.mem_of_getElem? (i := 61) rfl), List.forall_mem_cons.mpr ⟨mt_7 _ (List.mem_of_getElem? (i := 235) rfl), List.forall_mem_cons.mpr ⟨mt_7 _ (List.mem_of_getElem? (i := 236) rfl), List.forall_mem_cons.mpr ⟨mt_7 _ (List.mem_of_getElem? (i := 237) rfl), List.forall_mem_cons.mpr ⟨mt_7 _ (List.mem_of_getElem? (i := 238) rfl), List.forall_mem_cons.mpr ⟨mt_7 _ (List.mem_of_getElem? (i := 239) rfl), List.forall_mem_cons.mpr ⟨mt_8 _ (List.mem_of_getElem? (i := 1) rfl), List.forall_mem_cons.mpr ⟨mt_p _ (List.mem_of_getElem? (i := 62) rfl), List.forall_mem_cons.mpr ⟨mt_8 _ (List.mem_of_getElem? (i := 2) rfl), List.forall_mem_cons.mpr ⟨mt_6 _ (List.mem_of_getElem? (i := 167) rfl), List.forall_mem_cons.mpr ⟨mt_8 _ (List.mem_of_getElem? (i := 3) rfl), List.forall_mem_cons.mpr ⟨mt_8 _ (List.mem_of_getElem? (i := 4) rfl), List.forall_mem_cons.mpr ⟨mt_8 _ (List.mem_of_getElem? (i := 6) rfl), fun _ h => absurd h List.not_mem_nil⟩⟩⟩⟩⟩⟩⟩⟩⟩⟩⟩⟩⟩⟩⟩⟩⟩⟩⟩⟩⟩⟩⟩⟩
theorem ck_29 : ∀ w ∈ wsL_law_r29, w ∈ lw_tbl := by
  unfold wsL_law_r29
  exact List.forall_mem_cons.mpr ⟨mt_p _ (List.mem_of_getElem? (i := 63) rfl), List.forall_mem_cons.mpr ⟨mt_8 _ (List.mem_of_getElem? (i := 7) rfl), List.forall_mem_cons.mpr ⟨mt_8 _ (List.mem_of_getElem? (i := 8) rfl), List.forall_mem_cons.mpr ⟨mt_8 _ (List.mem_of_getElem? (i := 10) rfl), List.forall_mem_cons.mpr ⟨mt_p _ (List.mem_of_getElem? (i := 64) rfl), List.forall_mem_cons.mpr ⟨mt_8 _ (List.mem_of_getElem? (i := 11) rfl), List.forall_mem_cons.mpr ⟨mt_8 _ (List.mem_of_getElem? (i := 12) rfl), List.forall_mem_cons.mpr ⟨mt_8 _ (List.mem_of_getElem? (i := 13) rfl), List.forall_mem_cons.mpr ⟨mt_8 _ (List.mem_of_getElem? (i := 14) rfl), List.forall_mem_cons.mpr ⟨mt_8 _ (List.mem_of_getElem? (i := 15) rfl), List.forall_mem_cons.mpr ⟨mt_8 _ (List.mem_of_getElem? (i := 16) rfl), List.forall_mem_cons.mpr ⟨mt_8 _ (List.mem_of_getElem? (i := 17) rfl), List.forall_mem_cons.mpr ⟨mt_8 _ (List.mem_of_getElem? (i := 19) rfl), List.forall_mem_cons.mpr ⟨mt_p _ (List.mem_of_getElem? (i := 65) rfl), List.forall_mem_cons.mpr ⟨mt_8 _ (List.mem_of_getElem? (i := 20) rfl), List.forall_mem_cons.mpr ⟨mt_8 _ (List.mem_of_getElem? (i := 21) rfl), List.forall_mem_cons.mpr ⟨mt_8 _ (List.mem_of_getElem? (i := 23) rfl), List.forall_mem_cons.mpr ⟨mt_p _ (List.mem_of_getElem? (i := 66) rfl), List.forall_mem_cons.mpr ⟨mt_8 _ (List.mem_of_getElem? (i := 24) rfl), List.forall_mem_cons.mpr ⟨mt_8 _ (List.mem_of_getElem? (i := 25) rfl), List.forall_mem_cons.mpr ⟨mt_8 _ (List.mem_of_getElem? (i := 26) rfl), List.forall_mem_cons.mpr ⟨mt_8 _ (List.mem_of_getElem? (i := 27) rfl), List.forall_mem_cons.mpr ⟨mt_8 _ (List.mem_of_getElem? (i := 29) rfl), List.forall_mem_cons.mpr ⟨mt_p _ (List.mem_of_getElem? (i := 67) rfl), fun _ h => absurd h List.not_mem_nil⟩⟩⟩⟩⟩⟩⟩⟩⟩⟩⟩⟩⟩⟩⟩⟩⟩⟩⟩⟩⟩⟩⟩⟩
theorem ck_30 : ∀ w ∈ wsL_law_r30, w ∈ lw_tbl := by
  unfold wsL_law_r30
  exact List.forall_mem_cons.mpr ⟨mt_8 _ (List.mem_of_getElem? (i := 30) rfl), List.forall_mem_cons.mpr ⟨mt_4 _ (List.mem_of_getElem? (i := 25) rfl), List.forall_mem_cons.mpr ⟨mt_4 _ (List.mem_of_getElem? (i := 26) rfl), List.forall_mem_cons.mpr ⟨mt_4 _ (List.mem_of_getElem? (i := 27) rfl), List.forall_mem_cons.mpr ⟨mt_4 _ (List.mem_of_getElem? (i := 28) rfl), List.forall_mem_cons.mpr ⟨mt_8 _ (List.mem_of_getElem? (i := 31) rfl), List.forall_mem_cons.mpr ⟨mt_8 _ (List.mem_of_getElem? (i := 32) rfl), List.forall_mem_cons.mpr ⟨mt_8 _ (List.mem_of_getElem? (i := 33) rfl), List.forall_mem_cons.mpr ⟨mt_8 _ (List.mem_of_getElem? (i := 34) rfl), List.forall_mem_cons.mpr ⟨mt_4 _ (List.mem_of_getElem? (i := 29) rfl), List.forall_mem_cons.mpr ⟨mt_4 _ (List.mem_of_getElem? (i := 30) rfl), List.forall_mem_cons.mpr ⟨mt_4 _ (List.mem_of_getElem? (i := 31) rfl), List.forall_mem_cons.mpr ⟨mt_4 _ (List.mem_of_getElem? (i := 32) rfl), List.forall_mem_cons.mpr ⟨mt_1 _ (List.mem_of_getElem? (i := 109) rfl), List.forall_mem_cons.mpr ⟨mt_1 _ (List.mem_of_getElem? (i := 114) rfl), List.forall_mem_cons.mpr ⟨mt_1 _ (List.mem_of_getElem? (i := 118) rfl), List.forall_mem_cons.mpr ⟨mt_1 _ (List.mem_of_getElem? (i := 121) rfl), List.forall_mem_cons.mpr ⟨mt_1 _ (List.mem_of_getElem? (i := 124) rfl), List.forall_mem_cons.mpr ⟨mt_4 _ (List.mem_of_getElem? (i := 33) rfl), List.forall_mem_cons.mpr ⟨mt_4 _ (List.mem_of_getElem? (i := 34) rfl), List.forall_mem_cons.mpr ⟨mt_4 _ (List.mem_of_getElem? (i := 35) rfl), List.forall_mem_cons.mpr ⟨mt_4 _ (List.mem_of_getElem? (i := 36) rfl), List.forall_mem_cons.mpr ⟨mt_8 _ (List.mem_of_getElem? (i := 35) rfl), List.forall_mem_cons.mpr ⟨mt_8 _ (List.mem_of_getElem? (i := 36) rfl), fun _ h => absurd h List.not_mem_nil⟩⟩⟩⟩⟩⟩⟩⟩⟩⟩⟩⟩⟩⟩⟩⟩⟩⟩⟩⟩⟩⟩⟩⟩
theorem ck_31 : ∀ w ∈ wsL_law_r31, w ∈ lw_tbl := by
  unfold wsL_law_r31
  exact List.forall_mem_cons.mpr ⟨mt_8 _ (List.mem_of_getElem? (i := 37) rfl), List.forall_mem_cons.mpr ⟨mt_8 _ (List.mem_of_getElem? (i := 38) rfl), List.forall_mem_cons.mpr ⟨mt_8 _ (List.mem_of_getElem? (i := 39) rfl), List.forall_mem_cons.mpr ⟨mt_8 _ (List.mem_of_getElem? (i := 41) rfl), List.forall_mem_cons.mpr ⟨mt_p _ (List.mem_of_getElem? (i := 68) rfl), List.forall_mem_cons.mpr ⟨mt_8 _ (List.mem_of_getElem? (i := 42) rfl), List.forall_mem_cons.mpr ⟨mt_4 _ (List.mem_of_getElem? (i := 37) rfl), List.forall_mem_cons.mpr ⟨mt_4 _ (List.mem_of_getElem? (i := 38) rfl), List.forall_mem_cons.mpr ⟨mt_4 _ (List.mem_of_getElem? (i := 39) rfl), List.forall_mem_cons.mpr ⟨mt_4 _ (List.mem_of_getElem? (i := 40) rfl), List.forall_mem_cons.mpr ⟨mt_4 _ (List.mem_of_getElem? (i := 41) rfl), List.forall_mem_cons.mpr ⟨mt_4 _ (List.mem_of_getElem? (i := 42) rfl), List.forall_mem_cons.mpr ⟨mt_4 _ (List.mem_of_getElem? (i := 43) rfl), List.forall_mem_cons.mpr ⟨mt_4 _ (List.mem_of_getElem? (i := 44) rfl), List.forall_mem_cons.mpr ⟨mt_4 _ (List.mem_of_getElem? (i := 45) rfl), List.forall_mem_cons.mpr ⟨mt_4 _ (List.mem_of_getElem? (i := 46) rfl), List.forall_mem_cons.mpr ⟨mt_4 _ (List.mem_of_getElem? (i := 47) rfl), List.forall_mem_cons.mpr ⟨mt_4 _ (List.mem_of_getElem? (i := 48) rfl), List.forall_mem_cons.mpr ⟨mt_4 _ (List.mem_of_getElem? (i := 49) rfl), List.forall_mem_cons.mpr ⟨mt_4 _ (List.mem_of_getElem? (i := 50) rfl), List.forall_mem_cons.mpr ⟨mt_1 _ (List.mem_of_getElem? (i := 20) rfl), List.forall_mem_cons.mpr ⟨mt_4 _ (List.mem_of_getElem? (i := 51) rfl), List.forall_mem_cons.mpr ⟨mt_4 _ (List.mem_of_getElem? (i := 52) rfl), List.forall_mem_cons.mpr ⟨mt_4 _ (List.mem_of_getElem? (i := 53) rfl), fun _ h => absurd h List.not_mem_nil⟩⟩⟩⟩⟩⟩⟩⟩⟩⟩⟩⟩⟩⟩⟩⟩⟩⟩⟩⟩⟩⟩⟩⟩
theorem ck_32 : ∀ w ∈ wsL_law_r32, w ∈ lw_tbl := by
  unfold wsL_law_r32
  exact List.forall_mem_cons.mpr ⟨mt_4 _ (List.mem_of_getElem? (i := 54) rfl), List.forall_mem_cons.mpr ⟨mt_4 _ (List.mem_of_getElem? (i := 55) rfl), List.forall_mem_cons.mpr ⟨mt_4 _ (List.mem_of_getElem? (i := 56) rfl), List.forall_mem_cons.mpr ⟨mt_4 _ (List.mem_of_getElem? (i := 57) rfl), List.forall_mem_cons.mpr ⟨mt_4 _ (List.mem_of_getElem? (i := 58) rfl), List.forall_mem_cons.mpr ⟨mt_1 _ (List.mem_of_getElem? (i := 53) rfl), List.forall_mem_cons.mpr ⟨mt_1 _ (List.mem_of_getElem? (i := 41) rfl), List.forall_mem_cons.mpr ⟨mt_1 _ (List.mem_of_getElem? (i := 116) rfl), List.forall_mem_cons.mpr ⟨mt_4 _ (List.mem_of_getElem? (i := 59) rfl), List.forall_mem_cons.mpr ⟨mt_4 _ (List.mem_of_getElem? (i := 61) rfl), List.forall_mem_cons.mpr ⟨mt_p _ (List.mem_of_getElem? (i := 20) rfl), List.forall_mem_cons.mpr ⟨mt_4 _ (List.mem_of_getElem? (i := 62) rfl), List.forall_mem_cons.mpr ⟨mt_1 _ (List.mem_of_getElem? (i := 107) rfl), List.forall_mem_cons.mpr ⟨mt_4 _ (List.mem_of_getElem? (i := 63) rfl), List.forall_mem_cons.mpr ⟨mt_4 _ (List.mem_of_getElem? (i := 64) rfl), List.forall_mem_cons.mpr ⟨mt_4 _ (List.mem_of_getElem? (i := 65) rfl), List.forall_mem_cons.mpr ⟨mt_4 _ (List.mem_of_getElem? (i := 66) rfl), List.forall_mem_cons.mpr ⟨mt_4 _ (List.mem_of_getElem? (i := 67) rfl), List.forall_mem_cons.mpr ⟨mt_4 _ (List.mem_of_getElem? (i := 69) rfl), List.forall_mem_cons.mpr ⟨mt_p _ (List.mem_of_getElem? (i := 21) rfl), List.forall_mem_cons.mpr ⟨mt_4 _ (List.mem_of_getElem? (i := 70) rfl), List.forall_mem_cons.mpr ⟨mt_1 _ (List.mem_of_getElem? (i := 61) rfl), List.forall_mem_cons.mpr ⟨mt_4 _ (List.mem_of_getElem? (i := 71) rfl), List.forall_mem_cons.mpr ⟨mt_4 _ (List.mem_of_getElem? (i := 72) rfl), fun _ h => absurd h List.not_mem_nil⟩⟩⟩⟩⟩⟩⟩⟩⟩⟩⟩⟩⟩⟩⟩⟩⟩⟩⟩⟩⟩⟩⟩⟩
theorem ck_33 : ∀ w ∈ wsL_law_r33, w ∈ lw_tbl := by
  unfold wsL_law_r33
  exact List.forall_mem_cons.mpr ⟨mt_4 _ (List.mem_of_getElem? (i := 73) rfl), List.forall_mem_cons.mpr ⟨mt_4 _ (List.mem_of_getElem? (i := 74) rfl), List.forall_mem_cons.mpr ⟨mt_4 _ (List.mem_of_getElem? (i := 75) rfl), List.forall_mem_cons.mpr ⟨mt_4 _ (List.mem_of_getElem? (i := 76) rfl), List.forall_mem_cons.mpr ⟨mt_4 _ (List.mem_of_getElem? (i := 77) rfl), List.forall_mem_cons.mpr ⟨mt_4 _ (List.mem_of_getElem? (i := 78) rfl), List.forall_mem_cons.mpr ⟨mt_4 _ (List.mem_of_getElem? (i := 79) rfl), List.forall_mem_cons.mpr ⟨mt_4 _ (List.mem_of_getElem? (i := 80) rfl), List.forall_mem_cons.mpr ⟨mt_4 _ (List.mem_of_getElem? (i := 81) rfl), List.forall_mem_cons.mpr ⟨mt_4 _ (List.mem_of_getElem? (i := 83) rfl), List.forall_mem_cons.mpr ⟨mt_p _ (List.mem_of_getElem? (i := 22) rfl), List.forall_mem_cons.mpr ⟨mt_4 _ (List.mem_of_getElem? (i := 84) rfl), List.forall_mem_cons.mpr ⟨mt_4 _ (List.mem_of_getElem? (i := 85) rfl), List.forall_mem_cons.mpr ⟨mt_4 _ (List.mem_of_getElem? (i := 86) rfl), List.forall_mem_cons.mpr ⟨mt_4 _ (List.mem_of_getElem? (i := 87) rfl), List.forall_mem_cons.mpr ⟨mt_4 _ (List.mem_of_getElem? (i := 88) rfl), List.forall_mem_cons.mpr ⟨mt_4 _ (List.mem_of_getElem? (i := 89) rfl), List.forall_mem_cons.mpr ⟨mt_4 _ (List.mem_of_getElem? (i := 90) rfl), List.forall_mem_cons.mpr ⟨mt_4 _ (List.mem_of_getElem? (i := 91) rfl), List.forall_mem_cons.mpr ⟨mt_4 _ (List.mem_of_getElem? (i := 92) rfl), List.forall_mem_cons.mpr ⟨mt_4 _ (List.mem_of_getElem? (i := 93) rfl), List.forall_mem_cons.mpr ⟨mt_4 _ (List.mem_of_getElem? (i := 94) rfl), List.forall_mem_cons.mpr ⟨mt_4 _ (List.mem_of_getElem? (i := 95) rfl), List.forall_mem_cons.mpr ⟨mt_4 _ (List.mem_of_getElem? (i := 96) rfl), fun _ h => absurd h List.not_mem_nil⟩⟩⟩⟩⟩⟩⟩⟩⟩⟩⟩⟩⟩⟩⟩⟩⟩⟩⟩⟩⟩⟩⟩⟩
theorem ck_34 : ∀ w ∈ wsL_law_r34, w ∈ lw_tbl := by
  unfold wsL_law_r34
  exact List.forall_mem_cons.mpr ⟨mt_4 _ (List.mem_of_getElem? (i := 97) rfl), List.forall_mem_cons.mpr ⟨mt_4 _ (List.mem_of_getElem? (i := 98) rfl), List.forall_mem_cons.mpr ⟨mt_4 _ (List.mem_of_getElem? (i := 99) rfl), List.forall_mem_cons.mpr ⟨mt_4 _ (List.mem_of_getElem? (i := 100) rfl), List.forall_mem_cons.mpr ⟨mt_4 _ (List.mem_of_getElem? (i := 101) rfl), List.forall_mem_cons.mpr ⟨mt_4 _ (List.mem_of_getElem? (i := 102) rfl), List.forall_mem_cons.mpr ⟨mt_4 _ (List.mem_of_getElem? (i := 103) rfl), List.forall_mem_cons.mpr ⟨mt_4 _ (List.mem_of_getElem? (i := 104) rfl), List.forall_mem_cons.mpr ⟨mt_4 _ (List.mem_of_getElem? (i := 105) rfl), List.forall_mem_cons.mpr ⟨mt_4 _ (List.mem_of_getElem? (i := 106) rfl), List.forall_mem_cons.mpr ⟨mt_4 _ (List.mem_of_getElem? (i := 107) rfl), List.forall_mem_cons.mpr ⟨mt_4 _ (List.mem_of_getElem? (i := 108) rfl), List.forall_mem_cons.mpr ⟨mt_4 _ (List.mem_of_getElem? (i := 109) rfl), List.forall_mem_cons.mpr ⟨mt_4 _ (List.mem_of_getElem? (i := 110) rfl), List.forall_mem_cons.mpr ⟨mt_4 _ (List.mem_of_getElem? (i := 112) rfl), List.forall_mem_cons.mpr ⟨mt_p _ (List.mem_of_getElem? (i := 23) rfl), List.forall_mem_cons.mpr ⟨mt_4 _ (List.mem_of_getElem? (i := 113) rfl), List.forall_mem_cons.mpr ⟨mt_1 _ (List.mem_of_getElem? (i := 113) rfl), List.forall_mem_cons.mpr ⟨mt_4 _ (List.mem_of_getElem? (i := 133) rfl), List.forall_mem_cons.mpr ⟨mt_4 _ (List.mem_of_getElem? (i := 134) rfl), List.forall_mem_cons.mpr ⟨mt_4 _ (List.mem_of_getElem? (i := 114) rfl), List.forall_mem_cons.mpr ⟨mt_4 _ (List.mem_of_getElem? (i := 115) rfl), List.forall_mem_cons.mpr ⟨mt_4 _ (List.mem_of_getElem? (i := 116) rfl), List.forall_mem_cons.mpr ⟨mt_4 _ (List.mem_of_getElem? (i := 117) rfl), fun _ h => absurd h List.not_mem_nil⟩⟩⟩⟩⟩⟩⟩⟩⟩⟩⟩⟩⟩⟩⟩⟩⟩⟩⟩⟩⟩⟩⟩⟩
theorem ck_35 : ∀ w ∈ wsL_law_r35, w ∈ lw_tbl := by
  unfold wsL_law_r35
  exact List.forall_mem_cons.mpr ⟨mt_4 _ (List.mem_of_getElem? (i := 118) rfl), List.forall_mem_cons.mpr ⟨mt_4 _ (List.mem_of_getElem? (i := 119) rfl), List.forall_mem_cons.mpr ⟨mt_4 _ (List.mem_of_getElem? (i := 120) rfl), List.forall_mem_cons.mpr ⟨mt_4 _ (List.mem_of_getElem? (i := 121) rfl), List.forall_mem_cons.mpr ⟨mt_4 _ (List.mem_of_getElem? (i := 122) rfl), List.forall_mem_cons.mpr ⟨mt_4 _ (List.mem_of_getElem? (i := 123) rfl), List.forall_mem_cons.mpr ⟨mt_4 _ (List.mem_of_getElem? (i := 124) rfl), List.forall_mem_cons.mpr ⟨mt_4 _ (List.mem_of_getElem? (i := 125) rfl), List.forall_mem_cons.mpr ⟨mt_4 _ (List.mem_of_getElem? (i := 126) rfl), List.forall_mem_cons.mpr ⟨mt_4 _ (List.mem_of_getElem? (i := 128) rfl), List.forall_mem_cons.mpr ⟨mt_p _ (List.mem_of_getElem? (i := 24) rfl), List.forall_mem_cons.mpr ⟨mt_4 _ (List.mem_of_getElem? (i := 129) rfl), List.forall_mem_cons.mpr ⟨mt_4 _ (List.mem_of_getElem? (i := 130) rfl), List.forall_mem_cons.mpr ⟨mt_4 _ (List.mem_of_getElem? (i := 131) rfl), List.forall_mem_cons.mpr ⟨mt_4 _ (List.mem_of_getElem? (i := 132) rfl), List.forall_mem_cons.mpr ⟨mt_4 _ (List.mem_of_getElem? (i := 135) rfl), List.forall_mem_cons.mpr ⟨mt_4 _ (List.mem_of_getElem? (i := 136) rfl), List.forall_mem_cons.mpr ⟨mt_4 _ (List.mem_of_getElem? (i := 138) rfl), List.forall_mem_cons.mpr ⟨mt_p _ (List.mem_of_getElem? (i := 25) rfl), List.forall_mem_cons.mpr ⟨mt_4 _ (List.mem_of_getElem? (i := 139) rfl), List.forall_mem_cons.mpr ⟨mt_4 _ (List.mem_of_getElem? (i := 140) rfl), List.forall_mem_cons.mpr ⟨mt_4 _ (List.mem_of_getElem? (i := 141) rfl), List.forall_mem_cons.mpr ⟨mt_4 _ (List.mem_of_getElem? (i := 142) rfl), List.forall_mem_cons.mpr ⟨mt_4 _ (List.mem_of_getElem? (i := 143) rfl), fun _ h => absurd h List.not_mem_nil⟩⟩⟩⟩⟩⟩⟩⟩⟩⟩⟩⟩⟩⟩⟩⟩⟩⟩⟩⟩⟩⟩⟩⟩
theorem ck_36 : ∀ w ∈ wsL_law_r36, w ∈ lw_tbl := by
  unfold wsL_law_r36
  exact List.forall_mem_cons.mpr ⟨mt_8 _ (List.mem_of_getElem? (i := 43) rfl), List.forall_mem_cons.mpr ⟨mt_8 _ (List.mem_of_getElem? (i := 44) rfl), List.forall_mem_cons.mpr ⟨mt_8 _ (List.mem_of_getElem? (i := 45) rfl), List.forall_mem_cons.mpr ⟨mt_8 _ (List.mem_of_getElem? (i := 46) rfl), List.forall_mem_cons.mpr ⟨mt_6 _ (List.mem_of_getElem? (i := 172) rfl), List.forall_mem_cons.mpr ⟨mt_8 _ (List.mem_of_getElem? (i := 47) rfl), List.forall_mem_cons.mpr ⟨mt_8 _ (List.mem_of_getElem? (i := 48) rfl), List.forall_mem_cons.mpr ⟨mt_8 _ (List.mem_of_getElem? (i := 49) rfl), List.forall_mem_cons.mpr ⟨mt_8 _ (List.mem_of_getElem? (i := 50) rfl), List.forall_mem_cons.mpr ⟨mt_8 _ (List.mem_of_getElem? (i := 52) rfl), List.forall_mem_cons.mpr ⟨mt_p _ (List.mem_of_getElem? (i := 69) rfl), List.forall_mem_cons.mpr ⟨mt_8 _ (List.mem_of_getElem? (i := 53) rfl), List.forall_mem_cons.mpr ⟨mt_8 _ (List.mem_of_getElem? (i := 54) rfl), List.forall_mem_cons.mpr ⟨mt_8 _ (List.mem_of_getElem? (i := 55) rfl), List.forall_mem_cons.mpr ⟨mt_8 _ (List.mem_of_getElem? (i := 56) rfl), List.forall_mem_cons.mpr ⟨mt_8 _ (List.mem_of_getElem? (i := 57) rfl), List.forall_mem_cons.mpr ⟨mt_8 _ (List.mem_of_getElem? (i := 58) rfl), List.forall_mem_cons.mpr ⟨mt_8 _ (List.mem_of_getElem? (i := 59) rfl), List.forall_mem_cons.mpr ⟨mt_8 _ (List.mem_of_getElem? (i := 61) rfl), List.forall_mem_cons.mpr ⟨mt_p _ (List.mem_of_getElem? (i := 70) rfl), List.forall_mem_cons.mpr ⟨mt_8 _ (List.mem_of_getElem? (i := 62) rfl), List.forall_mem_cons.mpr ⟨mt_8 _ (List.mem_of_getElem? (i := 63) rfl), List.forall_mem_cons.mpr ⟨mt_8 _ (List.mem_of_getElem? (i := 65) rfl), List.forall_mem_cons.mpr ⟨mt_p _ (List.mem_of_getElem? (i := 71) rfl), fun _ h => absurd h List.not_mem_nil⟩⟩⟩⟩⟩⟩⟩⟩⟩⟩⟩⟩⟩⟩⟩⟩⟩⟩⟩⟩⟩⟩⟩⟩
theorem ck_37 : ∀ w ∈ wsL_law_r37, w ∈ lw_tbl := by
  unfold wsL_law_r37
  exact List.forall_mem_cons.mpr ⟨mt_8 _ (List.mem_of_getElem? (i := 66) rfl), List.forall_mem_cons.mpr ⟨mt_8 _ (List.mem_of_getElem? (i := 67) rfl), List.forall_mem_cons.mpr ⟨mt_8 _ (List.mem_of_getElem? (i := 69) rfl), List.forall_mem_cons.mpr ⟨mt_p _ (List.mem_of_getElem? (i := 72) rfl), List.forall_mem_cons.mpr ⟨mt_8 _ (List.mem_of_getElem? (i := 70) rfl), List.forall_mem_cons.mpr ⟨mt_8 _ (List.mem_of_getElem? (i := 71) rfl), List.forall_mem_cons.mpr ⟨mt_8 _ (List.mem_of_getElem? (i := 73) rfl), List.forall_mem_cons.mpr ⟨mt_p _ (List.mem_of_getElem? (i := 73) rfl), List.forall_mem_cons.mpr ⟨mt_8 _ (List.mem_of_getElem? (i := 74) rfl), List.forall_mem_cons.mpr ⟨mt_8 _ (List.mem_of_getElem? (i := 75) rfl), List.forall_mem_cons.mpr ⟨mt_8 _ (List.mem_of_getElem? (i := 77) rfl), List.forall_mem_cons.mpr ⟨mt_p _ (List.mem_of_getElem? (i := 74) rfl), List.forall_mem_cons.mpr ⟨mt_8 _ (List.mem_of_getElem? (i := 78) rfl), List.forall_mem_cons.mpr ⟨mt_8 _ (List.mem_of_getElem? (i := 79) rfl), List.forall_mem_cons.mpr ⟨mt_8 _ (List.mem_of_getElem? (i := 81) rfl), List.forall_mem_cons.mpr ⟨mt_p _ (List.mem_of_getElem? (i := 75) rfl), List.forall_mem_cons.mpr ⟨mt_8 _ (List.mem_of_getElem? (i := 82) rfl), List.forall_mem_cons.mpr ⟨mt_8 _ (List.mem_of_getElem? (i := 83) rfl), List.forall_mem_cons.mpr ⟨mt_8 _ (List.mem_of_getElem? (i := 85) rfl), List.forall_mem_cons.mpr ⟨mt_p _ (List.mem_of_getElem? (i := 76) rfl), List.forall_mem_cons.mpr ⟨mt_8 _ (List.mem_of_getElem? (i := 86) rfl), List.forall_mem_cons.mpr ⟨mt_4 _ (List.mem_of_getElem? (i := 144) rfl), List.forall_mem_cons.mpr ⟨mt_4 _ (List.mem_of_getElem? (i := 145) rfl), List.forall_mem_cons.mpr ⟨mt_4 _ (List.mem_of_getElem? (i := 146) rfl), fun _ h => absurd h List.not_mem_nil⟩⟩⟩⟩⟩⟩⟩⟩⟩⟩⟩⟩⟩⟩⟩⟩⟩⟩⟩⟩⟩⟩⟩⟩
theorem ck_38 : ∀ w ∈ wsL_law_r38, w ∈ lw_tbl := by
  unfold wsL_law_r38
  exact List.forall_mem_cons.mpr ⟨mt_4 _ (List.mem_of_getElem? (i := 147) rfl), List.forall_mem_cons.mpr ⟨mt_4 _ (List.mem_of_getElem? (i := 148) rfl), List.forall_mem_cons.mpr ⟨mt_8 _ (List.mem_of_getElem? (i := 87) rfl), List.forall_mem_cons.mpr ⟨mt_8 _ (List.mem_of_getElem? (i := 88) rfl), List.forall_mem_cons.mpr ⟨mt_8 _ (List.mem_of_getElem? (i := 89) rfl), List.forall_mem_cons.mpr ⟨mt_8 _ (List.mem_of_getElem? (i := 90) rfl), List.forall_mem_cons.mpr ⟨mt_4 _ (List.mem_of_getElem? (i := 149) rfl), List.forall_mem_cons.mpr ⟨mt_4 _ (List.mem_of_getElem? (i := 150) rfl), List.forall_mem_cons.mpr ⟨mt_4 _ (List.mem_of_getElem? (i := 151) rfl), List.forall_mem_cons.mpr ⟨mt_4 _ (List.mem_of_getElem? (i := 152) rfl), List.forall_mem_cons.mpr ⟨mt_4 _ (List.mem_of_getElem? (i := 153) rfl), List.forall_mem_cons.mpr ⟨mt_4 _ (List.mem_of_getElem? (i := 154) rfl), List.forall_mem_cons.mpr ⟨mt_4 _ (List.mem_of_getElem? (i := 155) rfl), List.forall_mem_cons.mpr ⟨mt_4 _ (List.mem_of_getElem? (i := 156) rfl), List.forall_mem_cons.mpr ⟨mt_4 _ (List.mem_of_getElem? (i := 157) rfl), List.forall_mem_cons.mpr ⟨mt_4 _ (List.mem_of_getElem? (i := 158) rfl), List.forall_mem_cons.mpr ⟨mt_4 _ (List.mem_of_getElem? (i := 159) rfl), List.forall_mem_cons.mpr ⟨mt_4 _ (List.mem_of_getElem? (i := 160) rfl), List.forall_mem_cons.mpr ⟨mt_4 _ (List.mem_of_getElem? (i := 161) rfl), List.forall_mem_cons.mpr ⟨mt_4 _ (List.mem_of_getElem? (i := 162) rfl), List.forall_mem_cons.mpr ⟨mt_4 _ (List.mem_of_getElem? (i := 163) rfl), List.forall_mem_cons.mpr ⟨mt_4 _ (List.mem_of_getElem? (i := 164) rfl), List.forall_mem_cons.mpr ⟨mt_8 _ (List.mem_of_getElem? (i := 91) rfl), List.forall_mem_cons.mpr ⟨mt_8 _ (List.mem_of_getElem? (i := 92) rfl), fun _ h => absurd h List.not_mem_nil⟩⟩⟩⟩⟩⟩⟩⟩⟩⟩⟩⟩⟩⟩⟩⟩⟩⟩⟩⟩⟩⟩⟩⟩
theorem ck_39 : ∀ w ∈ wsL_law_r39, w ∈ lw_tbl := by
  unfold wsL_law_r39
  exact List.forall_mem_cons.mpr ⟨mt_8 _ (List.mem_of_getElem? (i := 93) rfl), List.forall_mem_cons.mpr ⟨mt_8 _ (List.mem_of_getElem? (i := 94) rfl), List.forall_mem_cons.mpr ⟨mt_8 _ (List.mem_of_getElem? (i := 95) rfl), List.forall_mem_cons.mpr ⟨mt_8 _ (List.mem_of_getElem? (i := 96) rfl), List.forall_mem_cons.mpr ⟨mt_8 _ (List.mem_of_getElem? (i := 97) rfl), List.forall_mem_cons.mpr ⟨mt_4 _ (List.mem_of_getElem? (i := 165) rfl), List.forall_mem_cons.mpr ⟨mt_4 _ (List.mem_of_getElem? (i := 166) rfl), List.forall_mem_cons.mpr ⟨mt_4 _ (List.mem_of_getElem? (i := 167) rfl), List.forall_mem_cons.mpr ⟨mt_4 _ (List.mem_of_getElem? (i := 168) rfl), List.forall_mem_cons.mpr ⟨mt_4 _ (List.mem_of_getElem? (i := 169) rfl), List.forall_mem_cons.mpr ⟨mt_4 _ (List.mem_of_getElem? (i := 170) rfl), List.forall_mem_cons.mpr ⟨mt_4 _ (List.mem_of_getElem? (i := 171) rfl), List.forall_mem_cons.mpr ⟨mt_4 _ (List.mem_of_getElem? (i := 172) rfl), List.forall_mem_cons.mpr ⟨mt_4 _ (List.mem_of_getElem? (i := 173) rfl), List.forall_mem_cons.mpr ⟨mt_4 _ (List.mem_of_getElem? (i := 175) rfl), List.forall_mem_cons.mpr ⟨mt_p _ (List.mem_of_getElem? (i := 26) rfl), List.forall_mem_cons.mpr ⟨mt_4 _ (List.mem_of_getElem? (i := 176) rfl), List.forall_mem_cons.mpr ⟨mt_4 _ (List.mem_of_getElem? (i := 177) rfl), List.forall_mem_cons.mpr ⟨mt_4 _ (List.mem_of_getElem? (i := 178) rfl), List.forall_mem_cons.mpr ⟨mt_4 _ (List.mem_of_getElem? (i := 179) rfl), List.forall_mem_cons.mpr ⟨mt_4 _ (List.mem_of_getElem? (i := 181) rfl), List.forall_mem_cons.mpr ⟨mt_p _ (List.mem_of_getElem? (i := 27) rfl), List.forall_mem_cons.mpr ⟨mt_4 _ (List.mem_of_getElem? (i := 182) rfl), List.forall_mem_cons.mpr ⟨mt_1 _ (List.mem_of_getElem? (i := 45) rfl), fun _ h => absurd h List.not_mem_nil⟩⟩⟩⟩⟩⟩⟩⟩⟩⟩⟩⟩⟩⟩⟩⟩⟩⟩⟩⟩⟩⟩⟩⟩
theorem ck_40 : ∀ w ∈ wsL_law_r40, w ∈ lw_tbl := by
  unfold wsL_law_r40
  exact List.forall_mem_cons.mpr ⟨mt_4 _ (List.mem_of_getElem? (i := 183) rfl), List.forall_mem_cons.mpr ⟨mt_4 _ (List.mem_of_getElem? (i := 184) rfl), List.forall_mem_cons.mpr ⟨mt_4 _ (List.mem_of_getElem? (i := 185) rfl), List.forall_mem_cons.mpr ⟨mt_4 _ (List.mem_of_getElem? (i := 186) rfl), List.forall_mem_cons.mpr ⟨mt_8 _ (List.mem_of_getElem? (i := 98) rfl), List.forall_mem_cons.mpr ⟨mt_8 _ (List.mem_of_getElem? (i := 99) rfl), List.forall_mem_cons.mpr ⟨mt_8 _ (List.mem_of_getElem? (i := 100) rfl), List.forall_mem_cons.mpr ⟨mt_8 _ (List.mem_of_getElem? (i := 101) rfl), List.forall_mem_cons.mpr ⟨mt_8 _ (List.mem_of_getElem? (i := 102) rfl), List.forall_mem_cons.mpr ⟨mt_8 _ (List.mem_of_getElem? (i := 104) rfl), List.forall_mem_cons.mpr ⟨mt_p _ (List.mem_of_getElem? (i := 77) rfl), List.forall_mem_cons.mpr ⟨mt_8 _ (List.mem_of_getElem? (i := 105) rfl), List.forall_mem_cons.mpr ⟨mt_8 _ (List.mem_of_getElem? (i := 106) rfl), List.forall_mem_cons.mpr ⟨mt_8 _ (List.mem_of_getElem? (i := 108) rfl), List.forall_mem_cons.mpr ⟨mt_p _ (List.mem_of_getElem? (i := 78) rfl), List.forall_mem_cons.mpr ⟨mt_8 _ (List.mem_of_getElem? (i := 109) rfl), List.forall_mem_cons.mpr ⟨mt_6 _ (List.mem_of_getElem? (i := 173) rfl), List.forall_mem_cons.mpr ⟨mt_8 _ (List.mem_of_getElem? (i := 110) rfl), List.forall_mem_cons.mpr ⟨mt_8 _ (List.mem_of_getElem? (i := 112) rfl), List.forall_mem_cons.mpr ⟨mt_p _ (List.mem_of_getElem? (i := 79) rfl), List.forall_mem_cons.mpr ⟨mt_8 _ (List.mem_of_getElem? (i := 113) rfl), List.forall_mem_cons.mpr ⟨mt_6 _ (List.mem_of_getElem? (i := 174) rfl), List.forall_mem_cons.mpr ⟨mt_4 _ (List.mem_of_getElem? (i := 187) rfl), List.forall_mem_cons.mpr ⟨mt_4 _ (List.mem_of_getElem? (i := 188) rfl), fun _ h => absurd h List.not_mem_nil⟩⟩⟩⟩⟩⟩⟩⟩⟩⟩⟩⟩⟩⟩⟩⟩⟩⟩⟩⟩⟩⟩⟩⟩
theorem ck_41 : ∀ w ∈ wsL_law_r41, w ∈ lw_tbl := by
  unfold wsL_law_r41
  exact List.forall_mem_cons.mpr ⟨mt_4 _ (List.mem_of_getElem? (i := 189) rfl), List.forall_mem_cons.mpr ⟨mt_4 _ (List.mem_of_getElem? (i := 190) rfl), List.forall_mem_cons.mpr ⟨mt_4 _ (List.mem_of_getElem? (i := 191) rfl), List.forall_mem_cons.mpr ⟨mt_4 _ (List.mem_of_getElem? (i := 192) rfl), List.forall_mem_cons.mpr ⟨mt_4 _ (List.mem_of_getElem? (i := 193) rfl), List.forall_mem_cons.mpr ⟨mt_4 _ (List.mem_of_getElem? (i := 194) rfl), List.forall_mem_cons.mpr ⟨mt_4 _ (List.mem_of_getElem? (i := 195) rfl), List.forall_mem_cons.mpr ⟨mt_4 _ (List.mem_of_getElem? (i := 196) rfl), List.forall_mem_cons.mpr ⟨mt_4 _ (List.mem_of_getElem? (i := 197) rfl), List.forall_mem_cons.mpr ⟨mt_4 _ (List.mem_of_getElem? (i := 198) rfl), List.forall_mem_cons.mpr ⟨mt_4 _ (List.mem_of_getElem? (i := 199) rfl), List.forall_mem_cons.mpr ⟨mt_4 _ (List.mem_of_getElem? (i := 201) rfl), List.forall_mem_cons.mpr ⟨mt_p _ (List.mem_of_getElem? (i := 28) rfl), List.forall_mem_cons.mpr ⟨mt_4 _ (List.mem_of_getElem? (i := 202) rfl), List.forall_mem_cons.mpr ⟨mt_4 _ (List.mem_of_getElem? (i := 203) rfl), List.forall_mem_cons.mpr ⟨mt_4 _ (List.mem_of_getElem? (i := 204) rfl), List.forall_mem_cons.mpr ⟨mt_4 _ (List.mem_of_getElem? (i := 205) rfl), List.forall_mem_cons.mpr ⟨mt_4 _ (List.mem_of_getElem? (i := 206) rfl), List.forall_mem_cons.mpr ⟨mt_4 _ (List.mem_of_getElem? (i := 207) rfl), List.forall_mem_cons.mpr ⟨mt_4 _ (List.mem_of_getElem? (i := 208) rfl), List.forall_mem_cons.mpr ⟨mt_4 _ (List.mem_of_getElem? (i := 209) rfl), List.forall_mem_cons.mpr ⟨mt_8 _ (List.mem_of_getElem? (i := 114) rfl), List.forall_mem_cons.mpr ⟨mt_8 _ (List.mem_of_getElem? (i := 115) rfl), List.forall_mem_cons.mpr ⟨mt_8 _ (List.mem_of_getElem? (i := 116) rfl), fun _ h => absurd h List.not_mem_nil⟩⟩⟩⟩⟩⟩⟩⟩⟩⟩⟩⟩⟩⟩⟩⟩⟩⟩⟩⟩⟩⟩⟩⟩
theorem ck_42 : ∀ w ∈ wsL_law_r42, w ∈ lw_tbl := by
  unfold wsL_law_r42
  exact List.forall_mem_cons.mpr ⟨mt_8 _ (List.mem_of_getElem? (i := 117) rfl), List.forall_mem_cons.mpr ⟨mt_8 _ (List.mem_of_getElem? (i := 118) rfl), List.forall_mem_cons.mpr ⟨mt_8 _ (List.mem_of_getElem? (i := 119) rfl), List.forall_mem_cons.mpr ⟨mt_8 _ (List.mem_of_getElem? (i := 120) rfl), List.forall_mem_cons.mpr ⟨mt_8 _ (List.mem_of_getElem? (i := 121) rfl), List.forall_mem_cons.mpr ⟨mt_8 _ (List.mem_of_getElem? (i := 123) rfl), List.forall_mem_cons.mpr ⟨mt_p _ (List.mem_of_getElem? (i := 80) rfl), List.forall_mem_cons.mpr ⟨mt_8 _ (List.mem_of_getElem? (i := 124) rfl), List.forall_mem_cons.mpr ⟨mt_4 _ (List.mem_of_getElem? (i := 210) rfl), List.forall_mem_cons.mpr ⟨mt_4 _ (List.mem_of_getElem? (i := 211) rfl), List.forall_mem_cons.mpr ⟨mt_4 _ (List.mem_of_getElem? (i := 212) rfl), List.forall_mem_cons.mpr ⟨mt_4 _ (List.mem_of_getElem? (i := 213) rfl), List.forall_mem_cons.mpr ⟨mt_4 _ (List.mem_of_getElem? (i := 214) rfl), List.forall_mem_cons.mpr ⟨mt_4 _ (List.mem_of_getElem? (i := 215) rfl), List.forall_mem_cons.mpr ⟨mt_4 _ (List.mem_of_getElem? (i := 216) rfl), List.forall_mem_cons.mpr ⟨mt_4 _ (List.mem_of_getElem? (i := 217) rfl), List.forall_mem_cons.mpr ⟨mt_8 _ (List.mem_of_getElem? (i := 125) rfl), List.forall_mem_cons.mpr ⟨mt_8 _ (List.mem_of_getElem? (i := 126) rfl), List.forall_mem_cons.mpr ⟨mt_8 _ (List.mem_of_getElem? (i := 127) rfl), List.forall_mem_cons.mpr ⟨mt_8 _ (List.mem_of_getElem? (i := 128) rfl), List.forall_mem_cons.mpr ⟨mt_8 _ (List.mem_of_getElem? (i := 129) rfl), List.forall_mem_cons.mpr ⟨mt_8 _ (List.mem_of_getElem? (i := 131) rfl), List.forall_mem_cons.mpr ⟨mt_p _ (List.mem_of_getElem? (i := 81) rfl), List.forall_mem_cons.mpr ⟨mt_8 _ (List.mem_of_getElem? (i := 132) rfl), fun _ h => absurd h List.not_mem_nil⟩⟩⟩⟩⟩⟩⟩⟩⟩⟩⟩⟩⟩⟩⟩⟩⟩⟩⟩⟩⟩⟩⟩⟩
theorem ck_43 : ∀ w ∈ wsL_law_r43, w ∈ lw_tbl := by
  unfold wsL_law_r43
  exact List.forall_mem_cons.mpr ⟨mt_4 _ (List.mem_of_getElem? (i := 218) rfl), List.forall_mem_cons.mpr ⟨mt_4 _ (List.mem_of_getElem? (i := 219) rfl), List.forall_mem_cons.mpr ⟨mt_4 _ (List.mem_of_getElem? (i := 220) rfl), List.forall_mem_cons.mpr ⟨mt_4 _ (List.mem_of_getElem? (i := 221) rfl), List.forall_mem_cons.mpr ⟨mt_4 _ (List.mem_of_getElem? (i := 222) rfl), List.forall_mem_cons.mpr ⟨mt_4 _ (List.mem_of_getElem? (i := 223) rfl), List.forall_mem_cons.mpr ⟨mt_4 _ (List.mem_of_getElem? (i := 224) rfl), List.forall_mem_cons.mpr ⟨mt_4 _ (List.mem_of_getElem? (i := 225) rfl), List.forall_mem_cons.mpr ⟨mt_4 _ (List.mem_of_getElem? (i := 226) rfl), List.forall_mem_cons.mpr ⟨mt_1 _ (List.mem_of_getElem? (i := 42) rfl), List.forall_mem_cons.mpr ⟨mt_4 _ (List.mem_of_getElem? (i := 227) rfl), List.forall_mem_cons.mpr ⟨mt_4 _ (List.mem_of_getElem? (i := 229) rfl), List.forall_mem_cons.mpr ⟨mt_p _ (List.mem_of_getElem? (i := 29) rfl), List.forall_mem_cons.mpr ⟨mt_4 _ (List.mem_of_getElem? (i := 230) rfl), List.forall_mem_cons.mpr ⟨mt_4 _ (List.mem_of_getElem? (i := 231) rfl), List.forall_mem_cons.mpr ⟨mt_4 _ (List.mem_of_getElem? (i := 232) rfl), List.forall_mem_cons.mpr ⟨mt_4 _ (List.mem_of_getElem? (i := 233) rfl), List.forall_mem_cons.mpr ⟨mt_4 _ (List.mem_of_getElem? (i := 235) rfl), List.forall_mem_cons.mpr ⟨mt_p _ (List.mem_of_getElem? (i := 30) rfl), List.forall_mem_cons.mpr ⟨mt_4 _ (List.mem_of_getElem? (i := 236) rfl), List.forall_mem_cons.mpr ⟨mt_4 _ (List.mem_of_getElem? (i := 237) rfl), List.forall_mem_cons.mpr ⟨mt_4 _ (List.mem_of_getElem? (i := 238) rfl), List.forall_mem_cons.mpr ⟨mt_5 _ (List.mem_of_getElem? (i := 0) rfl), List.forall_mem_cons.mpr ⟨mt_p _ (List.mem_of_getElem? (i := 31) rfl), fun _ h => absurd h List.not_mem_nil⟩⟩⟩⟩⟩⟩⟩⟩⟩⟩⟩⟩⟩⟩⟩⟩⟩⟩⟩⟩⟩⟩⟩⟩
theorem ck_44 : ∀ w ∈ wsL_law_r44, w ∈ lw_tbl := by
  unfold wsL_law_r44
  exact List.forall_mem_cons.mpr ⟨mt_5 _ (List.mem_of_getElem? (i := 1) rfl), List.forall_mem_cons.mpr ⟨mt_5 _ (List.mem_of_getElem? (i := 2) rfl), List.forall_mem_cons.mpr ⟨mt_5 _ (List.mem_of_getElem? (i := 3) rfl), List.forall_mem_cons.mpr ⟨mt_5 _ (List.mem_of_getElem? (i := 4) rfl), List.forall_mem_cons.mpr ⟨mt_5 _ (List.mem_of_getElem? (i := 5) rfl), List.forall_mem_cons.mpr ⟨mt_5 _ (List.mem_of_getElem? (i := 6) rfl), List.forall_mem_cons.mpr ⟨mt_5 _ (List.mem_of_getElem? (i := 7) rfl), List.forall_mem_cons.mpr ⟨mt_5 _ (List.mem_of_getElem? (i := 8) rfl), List.forall_mem_cons.mpr ⟨mt_5 _ (List.mem_of_getElem? (i := 9) rfl), List.forall_mem_cons.mpr ⟨mt_5 _ (List.mem_of_getElem? (i := 10) rfl), List.forall_mem_cons.mpr ⟨mt_5 _ (List.mem_of_getElem? (i := 11) rfl), List.forall_mem_cons.mpr ⟨mt_5 _ (List.mem_of_getElem? (i := 12) rfl), List.forall_mem_cons.mpr ⟨mt_5 _ (List.mem_of_getElem? (i := 13) rfl), List.forall_mem_cons.mpr ⟨mt_5 _ (List.mem_of_getElem? (i := 14) rfl), List.forall_mem_cons.mpr ⟨mt_5 _ (List.mem_of_getElem? (i := 15) rfl), List.forall_mem_cons.mpr ⟨mt_5 _ (List.mem_of_getElem? (i := 16) rfl), List.forall_mem_cons.mpr ⟨mt_5 _ (List.mem_of_getElem? (i := 17) rfl), List.forall_mem_cons.mpr ⟨mt_5 _ (List.mem_of_getElem? (i := 18) rfl), List.forall_mem_cons.mpr ⟨mt_5 _ (List.mem_of_getElem? (i := 19) rfl), List.forall_mem_cons.mpr ⟨mt_5 _ (List.mem_of_getElem? (i := 20) rfl), List.forall_mem_cons.mpr ⟨mt_5 _ (List.mem_of_getElem? (i := 21) rfl), List.forall_mem_cons.mpr ⟨mt_5 _ (List.mem_of_getElem? (i := 22) rfl), List.forall_mem_cons.mpr ⟨mt_5 _ (List.mem_of_getElem? (i := 23) rfl), List.forall_mem_cons.mpr ⟨mt_5 _ (List.mem_of_getElem? (i := 24) rfl), fun _ h => absurd h List.not_mem_nil⟩⟩⟩⟩⟩⟩⟩⟩⟩⟩⟩⟩⟩⟩⟩⟩⟩⟩⟩⟩⟩⟩⟩⟩
theorem ck_45 : ∀ w ∈ wsL_law_r45, w ∈ lw_tbl := by
  unfold wsL_law_r45
  exact List.forall_mem_cons.mpr ⟨mt_5 _ (List.mem_of_getElem? (i := 25) rfl), List.forall_mem_cons.mpr ⟨mt_8 _ (List.mem_of_getElem? (i := 133) rfl), List.forall_mem_cons.mpr ⟨mt_8 _ (List.mem_of_getElem? (i := 134) rfl), List.forall_mem_cons.mpr ⟨mt_8 _ (List.mem_of_getElem? (i := 135) rfl), List.forall_mem_cons.mpr ⟨mt_8 _ (List.mem_of_getElem? (i := 136) rfl), List.forall_mem_cons.mpr ⟨mt_8 _ (List.mem_of_getElem? (i := 137) rfl), List.forall_mem_cons.mpr ⟨mt_8 _ (List.mem_of_getElem? (i := 138) rfl), List.forall_mem_cons.mpr ⟨mt_8 _ (List.mem_of_getElem? (i := 139) rfl), List.forall_mem_cons.mpr ⟨mt_8 _ (List.mem_of_getElem? (i := 140) rfl), List.forall_mem_cons.mpr ⟨mt_8 _ (List.mem_of_getElem? (i := 141) rfl), List.forall_mem_cons.mpr ⟨mt_8 _ (List.mem_of_getElem? (i := 142) rfl), List.forall_mem_cons.mpr ⟨mt_8 _ (List.mem_of_getElem? (i := 143) rfl), List.forall_mem_cons.mpr ⟨mt_8 _ (List.mem_of_getElem? (i := 144) rfl), List.forall_mem_cons.mpr ⟨mt_8 _ (List.mem_of_getElem? (i := 145) rfl), List.forall_mem_cons.mpr ⟨mt_5 _ (List.mem_of_getElem? (i := 27) rfl), List.forall_mem_cons.mpr ⟨mt_5 _ (List.mem_of_getElem? (i := 28) rfl), List.forall_mem_cons.mpr ⟨mt_5 _ (List.mem_of_getElem? (i := 29) rfl), List.forall_mem_cons.mpr ⟨mt_5 _ (List.mem_of_getElem? (i := 30) rfl), List.forall_mem_cons.mpr ⟨mt_5 _ (List.mem_of_getElem? (i := 31) rfl), List.forall_mem_cons.mpr ⟨mt_5 _ (List.mem_of_getElem? (i := 32) rfl), List.forall_mem_cons.mpr ⟨mt_5 _ (List.mem_of_getElem? (i := 33) rfl), List.forall_mem_cons.mpr ⟨mt_5 _ (List.mem_of_getElem? (i := 34) rfl), List.forall_mem_cons.mpr ⟨mt_5 _ (List.mem_of_getElem? (i := 35) rfl), List.forall_mem_cons.mpr ⟨mt_5 _ (List.mem_of_getElem? (i := 37) rfl), fun _ h => absurd h List.not_mem_nil⟩⟩⟩⟩⟩⟩⟩⟩⟩⟩⟩⟩⟩⟩⟩⟩⟩⟩⟩⟩⟩⟩⟩⟩
theorem ck_46 : ∀ w ∈ wsL_law_r46, w ∈ lw_tbl := by
  unfold wsL_law_r46
  exact List.forall_mem_cons.mpr ⟨mt_5 _ (List.mem_of_getElem? (i := 36) rfl), List.forall_mem_cons.mpr ⟨mt_8 _ (List.mem_of_getElem? (i := 146) rfl), List.forall_mem_cons.mpr ⟨mt_8 _ (List.mem_of_getElem? (i := 147) rfl), List.forall_mem_cons.mpr ⟨mt_8 _ (List.mem_of_getElem? (i := 148) rfl), List.forall_mem_cons.mpr ⟨mt_8 _ (List.mem_of_getElem? (i := 149) rfl), List.forall_mem_cons.mpr ⟨mt_8 _ (List.mem_of_getElem? (i := 150) rfl), List.forall_mem_cons.mpr ⟨mt_6 _ (List.mem_of_getElem? (i := 175) rfl), List.forall_mem_cons.mpr ⟨mt_6 _ (List.mem_of_getElem? (i := 176) rfl), List.forall_mem_cons.mpr ⟨mt_6 _ (List.mem_of_getElem? (i := 177) rfl), List.forall_mem_cons.mpr ⟨mt_8 _ (List.mem_of_getElem? (i := 151) rfl), List.forall_mem_cons.mpr ⟨mt_8 _ (List.mem_of_getElem? (i := 153) rfl), List.forall_mem_cons.mpr ⟨mt_p _ (List.mem_of_getElem? (i := 82) rfl), List.forall_mem_cons.mpr ⟨mt_8 _ (List.mem_of_getElem? (i := 154) rfl), List.forall_mem_cons.mpr ⟨mt_5 _ (List.mem_of_getElem? (i := 38) rfl), List.forall_mem_cons.mpr ⟨mt_5 _ (List.mem_of_getElem? (i := 39) rfl), List.forall_mem_cons.mpr ⟨mt_5 _ (List.mem_of_getElem? (i := 40) rfl), List.forall_mem_cons.mpr ⟨mt_5 _ (List.mem_of_getElem? (i := 41) rfl), List.forall_mem_cons.mpr ⟨mt_5 _ (List.mem_of_getElem? (i := 42) rfl), List.forall_mem_cons.mpr ⟨mt_5 _ (List.mem_of_getElem? (i := 43) rfl), List.forall_mem_cons.mpr ⟨mt_5 _ (List.mem_of_getElem? (i := 44) rfl), List.forall_mem_cons.mpr ⟨mt_5 _ (List.mem_of_getElem? (i := 45) rfl), List.forall_mem_cons.mpr ⟨mt_5 _ (List.mem_of_getElem? (i := 46) rfl), List.forall_mem_cons.mpr ⟨mt_5 _ (List.mem_of_getElem? (i := 47) rfl), List.forall_mem_cons.mpr ⟨mt_5 _ (List.mem_of_getElem? (i := 48) rfl), fun _ h => absurd h List.not_mem_nil⟩⟩⟩⟩⟩⟩⟩⟩⟩⟩⟩⟩⟩⟩⟩⟩⟩⟩⟩⟩⟩⟩⟩⟩
theorem ck_47 : ∀ w ∈ wsL_law_r47, w ∈ lw_tbl := by
  unfold wsL_law_r47
  exact List.forall_mem_cons.mpr ⟨mt_5 _ (List.mem_of_getElem? (i := 49) rfl), List.forall_mem_cons.mpr ⟨mt_5 _ (List.mem_of_getElem? (i := 50) rfl), List.forall_mem_cons.mpr ⟨mt_5 _ (List.mem_of_getElem? (i := 51) rfl), List.forall_mem_cons.mpr ⟨mt_5 _ (List.mem_of_getElem? (i := 55) rfl), List.forall_mem_cons.mpr ⟨mt_5 _ (List.mem_of_getElem? (i := 52) rfl), List.forall_mem_cons.mpr ⟨mt_5 _ (List.mem_of_getElem? (i := 53) rfl), List.forall_mem_cons.mpr ⟨mt_5 _ (List.mem_of_getElem? (i := 54) rfl), List.forall_mem_cons.mpr ⟨mt_5 _ (List.mem_of_getElem? (i := 56) rfl), List.forall_mem_cons.mpr ⟨mt_5 _ (List.mem_of_getElem? (i := 57) rfl), List.forall_mem_cons.mpr ⟨mt_5 _ (List.mem_of_getElem? (i := 58) rfl), List.forall_mem_cons.mpr ⟨mt_5 _ (List.mem_of_getElem? (i := 59) rfl), List.forall_mem_cons.mpr ⟨mt_5 _ (List.mem_of_getElem? (i := 60) rfl), List.forall_mem_cons.mpr ⟨mt_5 _ (List.mem_of_getElem? (i := 61) rfl), List.forall_mem_cons.mpr ⟨mt_5 _ (List.mem_of_getElem? (i := 63) rfl), List.forall_mem_cons.mpr ⟨mt_p _ (List.mem_of_getElem? (i := 32) rfl), List.forall_mem_cons.mpr ⟨mt_5 _ (List.mem_of_getElem? (i := 64) rfl), List.forall_mem_cons.mpr ⟨mt_5 _ (List.mem_of_getElem? (i := 65) rfl), List.forall_mem_cons.mpr ⟨mt_5 _ (List.mem_of_getElem? (i := 66) rfl), List.forall_mem_cons.mpr ⟨mt_5 _ (List.mem_of_getElem? (i := 67) rfl), List.forall_mem_cons.mpr ⟨mt_5 _ (List.mem_of_getElem? (i := 68) rfl), List.forall_mem_cons.mpr ⟨mt_5 _ (List.mem_of_getElem? (i := 69) rfl), List.forall_mem_cons.mpr ⟨mt_5 _ (List.mem_of_getElem? (i := 71) rfl), List.forall_mem_cons.mpr ⟨mt_p _ (List.mem_of_getElem? (i := 33) rfl), List.forall_mem_cons.mpr ⟨mt_5 _ (List.mem_of_getElem? (i := 72) rfl), fun _ h => absurd h List.not_mem_nil⟩⟩⟩⟩⟩⟩⟩⟩⟩⟩⟩⟩⟩⟩⟩⟩⟩⟩⟩⟩⟩⟩⟩⟩
theorem ck_48 : ∀ w ∈ wsL_law_r48, w ∈ lw_tbl := by
  unfold wsL_law_r48
  exact List.forall_mem_cons.mpr ⟨mt_5 _ (List.mem_of_getElem? (i := 73) rfl), List.forall_mem_cons.mpr ⟨mt_5 _ (List.mem_of_getElem? (i := 74) rfl), List.forall_mem_cons.mpr ⟨mt_5 _ (List.mem_of_getElem? (i := 75) rfl), List.forall_mem_cons.mpr ⟨mt_5 _ (List.mem_of_getElem? (i := 76) rfl), List.forall_mem_cons.mpr ⟨mt_5 _ (List.mem_of_getElem? (i := 77) rfl), List.forall_mem_cons.mpr ⟨mt_5 _ (List.mem_of_getElem? (i := 78) rfl), List.forall_mem_cons.mpr ⟨mt_8 _ (List.mem_of_getElem? (i := 155) rfl), List.forall_mem_cons.mpr ⟨mt_8 _ (List.mem_of_getElem? (i := 156) rfl), List.forall_mem_cons.mpr ⟨mt_8 _ (List.mem_of_getElem? (i := 157) rfl), List.forall_mem_cons.mpr ⟨mt_8 _ (List.mem_of_getElem? (i := 158) rfl), List.forall_mem_cons.mpr ⟨mt_8 _ (List.mem_of_getElem? (i := 162) rfl), List.forall_mem_cons.mpr ⟨mt_6 _ (List.mem_of_getElem? (i := 179) rfl), List.forall_mem_cons.mpr ⟨mt_6 _ (List.mem_of_getElem? (i := 178) rfl), List.forall_mem_cons.mpr ⟨mt_8 _ (List.mem_of_getElem? (i := 171) rfl), List.forall_mem_cons.mpr ⟨mt_8 _ (List.mem_of_getElem? (i := 159) rfl), List.forall_mem_cons.mpr ⟨mt_8 _ (List.mem_of_getElem? (i := 160) rfl), List.forall_mem_cons.mpr ⟨mt_8 _ (List.mem_of_getElem? (i := 161) rfl), List.forall_mem_cons.mpr ⟨mt_8 _ (List.mem_of_getElem? (i := 163) rfl), List.forall_mem_cons.mpr ⟨mt_8 _ (List.mem_of_getElem? (i := 165) rfl), List.forall_mem_cons.mpr ⟨mt_p _ (List.mem_of_getElem? (i := 83) rfl), List.forall_mem_cons.mpr ⟨mt_8 _ (List.mem_of_getElem? (i := 166) rfl), List.forall_mem_cons.mpr ⟨mt_8 _ (List.mem_of_getElem? (i := 167) rfl), List.forall_mem_cons.mpr ⟨mt_8 _ (List.mem_of_getElem? (i := 169) rfl), List.forall_mem_cons.mpr ⟨mt_p _ (List.mem_of_getElem? (i := 84) rfl), fun _ h => absurd h List.not_mem_nil⟩⟩⟩⟩⟩⟩⟩⟩⟩⟩⟩⟩⟩⟩⟩⟩⟩⟩⟩⟩⟩⟩⟩⟩
theorem ck_49 : ∀ w ∈ wsL_law_r49, w ∈ lw_tbl := by
  unfold wsL_law_r49
  exact List.forall_mem_cons.mpr ⟨mt_8 _ (List.mem_of_getElem? (i := 170) rfl), List.forall_mem_cons.mpr ⟨mt_5 _ (List.mem_of_getElem? (i := 79) rfl), List.forall_mem_cons.mpr ⟨mt_5 _ (List.mem_of_getElem? (i := 80) rfl), List.forall_mem_cons.mpr ⟨mt_5 _ (List.mem_of_getElem? (i := 81) rfl), List.forall_mem_cons.mpr ⟨mt_5 _ (List.mem_of_getElem? (i := 82) rfl), List.forall_mem_cons.mpr ⟨mt_5 _ (List.mem_of_getElem? (i := 83) rfl), List.forall_mem_cons.mpr ⟨mt_5 _ (List.mem_of_getElem? (i := 84) rfl), List.forall_mem_cons.mpr ⟨mt_5 _ (List.mem_of_getElem? (i := 85) rfl), List.forall_mem_cons.mpr ⟨mt_5 _ (List.mem_of_getElem? (i := 86) rfl), List.forall_mem_cons.mpr ⟨mt_5 _ (List.mem_of_getElem? (i := 87) rfl), List.forall_mem_cons.mpr ⟨mt_5 _ (List.mem_of_getElem? (i := 89) rfl), List.forall_mem_cons.mpr ⟨mt_5 _ (List.mem_of_getElem? (i := 88) rfl), List.forall_mem_cons.mpr ⟨mt_5 _ (List.mem_of_getElem? (i := 90) rfl), List.forall_mem_cons.mpr ⟨mt_5 _ (List.mem_of_getElem? (i := 91) rfl), List.forall_mem_cons.mpr ⟨mt_5 _ (List.mem_of_getElem? (i := 92) rfl), List.forall_mem_cons.mpr ⟨mt_5 _ (List.mem_of_getElem? (i := 93) rfl), List.forall_mem_cons.mpr ⟨mt_8 _ (List.mem_of_getElem? (i := 172) rfl), List.forall_mem_cons.mpr ⟨mt_8 _ (List.mem_of_getElem? (i := 173) rfl), List.forall_mem_cons.mpr ⟨mt_8 _ (List.mem_of_getElem? (i := 174) rfl), List.forall_mem_cons.mpr ⟨mt_8 _ (List.mem_of_getElem? (i := 175) rfl), List.forall_mem_cons.mpr ⟨mt_8 _ (List.mem_of_getElem? (i := 176) rfl), List.forall_mem_cons.mpr ⟨mt_8 _ (List.mem_of_getElem? (i := 181) rfl), List.forall_mem_cons.mpr ⟨mt_8 _ (List.mem_of_getElem? (i := 177) rfl), List.forall_mem_cons.mpr ⟨mt_8 _ (List.mem_of_getElem? (i := 179) rfl), fun _ h => absurd h List.not_mem_nil⟩⟩⟩⟩⟩⟩⟩⟩⟩⟩⟩⟩⟩⟩⟩⟩⟩⟩⟩⟩⟩⟩⟩⟩
theorem ck_50 : ∀ w ∈ wsL_law_r50, w ∈ lw_tbl := by
  unfold wsL_law_r50
  exact List.forall_mem_cons.mpr ⟨mt_p _ (List.mem_of_getElem? (i := 85) rfl), List.forall_mem_cons.mpr ⟨mt_8 _ (List.mem_of_getElem? (i := 180) rfl), List.forall_mem_cons.mpr ⟨mt_5 _ (List.mem_of_getElem? (i := 94) rfl), List.forall_mem_cons.mpr ⟨mt_5 _ (List.mem_of_getElem? (i := 95) rfl), List.forall_mem_cons.mpr ⟨mt_5 _ (List.mem_of_getElem? (i := 96) rfl), List.forall_mem_cons.mpr ⟨mt_5 _ (List.mem_of_getElem? (i := 97) rfl), List.forall_mem_cons.mpr ⟨mt_5 _ (List.mem_of_getElem? (i := 98) rfl), List.forall_mem_cons.mpr ⟨mt_5 _ (List.mem_of_getElem? (i := 99) rfl), List.forall_mem_cons.mpr ⟨mt_5 _ (List.mem_of_getElem? (i := 100) rfl), List.forall_mem_cons.mpr ⟨mt_5 _ (List.mem_of_getElem? (i := 101) rfl), List.forall_mem_cons.mpr ⟨mt_1 _ (List.mem_of_getElem? (i := 44) rfl), List.forall_mem_cons.mpr ⟨mt_5 _ (List.mem_of_getElem? (i := 102) rfl), List.forall_mem_cons.mpr ⟨mt_5 _ (List.mem_of_getElem? (i := 103) rfl), List.forall_mem_cons.mpr ⟨mt_5 _ (List.mem_of_getElem? (i := 104) rfl), List.forall_mem_cons.mpr ⟨mt_5 _ (List.mem_of_getElem? (i := 105) rfl), List.forall_mem_cons.mpr ⟨mt_5 _ (List.mem_of_getElem? (i := 106) rfl), List.forall_mem_cons.mpr ⟨mt_8 _ (List.mem_of_getElem? (i := 182) rfl), List.forall_mem_cons.mpr ⟨mt_8 _ (List.mem_of_getElem? (i := 183) rfl), List.forall_mem_cons.mpr ⟨mt_8 _ (List.mem_of_getElem? (i := 184) rfl), List.forall_mem_cons.mpr ⟨mt_8 _ (List.mem_of_getElem? (i := 185) rfl), List.forall_mem_cons.mpr ⟨mt_8 _ (List.mem_of_getElem? (i := 186) rfl), List.forall_mem_cons.mpr ⟨mt_8 _ (List.mem_of_getElem? (i := 188) rfl), List.forall_mem_cons.mpr ⟨mt_p _ (List.mem_of_getElem? (i := 86) rfl), List.forall_mem_cons.mpr ⟨mt_8 _ (List.mem_of_getElem? (i := 189) rfl), fun _ h => absurd h List.not_mem_nil⟩⟩⟩⟩⟩⟩⟩⟩⟩⟩⟩⟩⟩⟩⟩⟩⟩⟩⟩⟩⟩⟩⟩⟩
theorem ck_51 : ∀ w ∈ wsL_law_r51, w ∈ lw_tbl := by
  unfold wsL_law_r51
  exact List.forall_mem_cons.mpr ⟨mt_5 _ (List.mem_of_getElem? (i := 107) rfl), List.forall_mem_cons.mpr ⟨mt_5 _ (List.mem_of_getElem? (i := 108) rfl), List.forall_mem_cons.mpr ⟨mt_5 _ (List.mem_of_getElem? (i := 109) rfl), List.forall_mem_cons.mpr ⟨mt_5 _ (List.mem_of_getElem? (i := 110) rfl), List.forall_mem_cons.mpr ⟨mt_5 _ (List.mem_of_getElem? (i := 111) rfl), List.forall_mem_cons.mpr ⟨mt_5 _ (List.mem_of_getElem? (i := 112) rfl), List.forall_mem_cons.mpr ⟨mt_5 _ (List.mem_of_getElem? (i := 113) rfl), List.forall_mem_cons.mpr ⟨mt_5 _ (List.mem_of_getElem? (i := 114) rfl), List.forall_mem_cons.mpr ⟨mt_5 _ (List.mem_of_getElem? (i := 116) rfl), List.forall_mem_cons.mpr ⟨mt_5 _ (List.mem_of_getElem? (i := 115) rfl), List.forall_mem_cons.mpr ⟨mt_8 _ (List.mem_of_getElem? (i := 190) rfl), List.forall_mem_cons.mpr ⟨mt_8 _ (List.mem_of_getElem? (i := 191) rfl), List.forall_mem_cons.mpr ⟨mt_8 _ (List.mem_of_getElem? (i := 192) rfl), List.forall_mem_cons.mpr ⟨mt_8 _ (List.mem_of_getElem? (i := 193) rfl), List.forall_mem_cons.mpr ⟨mt_5 _ (List.mem_of_getElem? (i := 117) rfl), List.forall_mem_cons.mpr ⟨mt_5 _ (List.mem_of_getElem? (i := 118) rfl), List.forall_mem_cons.mpr ⟨mt_5 _ (List.mem_of_getElem? (i := 119) rfl), List.forall_mem_cons.mpr ⟨mt_5 _ (List.mem_of_getElem? (i := 120) rfl), List.forall_mem_cons.mpr ⟨mt_5 _ (List.mem_of_getElem? (i := 121) rfl), List.forall_mem_cons.mpr ⟨mt_5 _ (List.mem_of_getElem? (i := 122) rfl), List.forall_mem_cons.mpr ⟨mt_5 _ (List.mem_of_getElem? (i := 123) rfl), List.forall_mem_cons.mpr ⟨mt_5 _ (List.mem_of_getElem? (i := 124) rfl), List.forall_mem_cons.mpr ⟨mt_5 _ (List.mem_of_getElem? (i := 125) rfl), List.forall_mem_cons.mpr ⟨mt_5 _ (List.mem_of_getElem? (i := 126) rfl), fun _ h => absurd h List.not_mem_nil⟩⟩⟩⟩⟩⟩⟩⟩⟩⟩⟩⟩⟩⟩⟩⟩⟩⟩⟩⟩⟩⟩⟩⟩
theorem ck_52 : ∀ w ∈ wsL_law_r52, w ∈ lw_tbl := by
  unfold wsL_law_r52
  exact List.forall_mem_cons.mpr ⟨mt_5 _ (List.mem_of_getElem? (i := 127) rfl), List.forall_mem_cons.mpr ⟨mt_5 _ (List.mem_of_getElem? (i := 128) rfl), List.forall_mem_cons.mpr ⟨mt_5 _ (List.mem_of_getElem? (i := 129) rfl), List.forall_mem_cons.mpr ⟨mt_5 _ (List.mem_of_getElem? (i := 130) rfl), List.forall_mem_cons.mpr ⟨mt_5 _ (List.mem_of_getElem? (i := 131) rfl), List.forall_mem_cons.mpr ⟨mt_5 _ (List.mem_of_getElem? (i := 132) rfl), List.forall_mem_cons.mpr ⟨mt_5 _ (List.mem_of_getElem? (i := 149) rfl), List.forall_mem_cons.mpr ⟨mt_5 _ (List.mem_of_getElem? (i := 133) rfl), List.forall_mem_cons.mpr ⟨mt_5 _ (List.mem_of_getElem? (i := 135) rfl), List.forall_mem_cons.mpr ⟨mt_p _ (List.mem_of_getElem? (i := 34) rfl), List.forall_mem_cons.mpr ⟨mt_5 _ (List.mem_of_getElem? (i := 136) rfl), List.forall_mem_cons.mpr ⟨mt_1 _ (List.mem_of_getElem? (i := 111) rfl), List.forall_mem_cons.mpr ⟨mt_5 _ (List.mem_of_getElem? (i := 140) rfl), List.forall_mem_cons.mpr ⟨mt_5 _ (List.mem_of_getElem? (i := 137) rfl), List.forall_mem_cons.mpr ⟨mt_5 _ (List.mem_of_getElem? (i := 138) rfl), List.forall_mem_cons.mpr ⟨mt_5 _ (List.mem_of_getElem? (i := 139) rfl), List.forall_mem_cons.mpr ⟨mt_5 _ (List.mem_of_getElem? (i := 141) rfl), List.forall_mem_cons.mpr ⟨mt_5 _ (List.mem_of_getElem? (i := 143) rfl), List.forall_mem_cons.mpr ⟨mt_p _ (List.mem_of_getElem? (i := 35) rfl), List.forall_mem_cons.mpr ⟨mt_5 _ (List.mem_of_getElem? (i := 144) rfl), List.forall_mem_cons.mpr ⟨mt_5 _ (List.mem_of_getElem? (i := 145) rfl), List.forall_mem_cons.mpr ⟨mt_5 _ (List.mem_of_getElem? (i := 147) rfl), List.forall_mem_cons.mpr ⟨mt_5 _ (List.mem_of_getElem? (i := 146) rfl), List.forall_mem_cons.mpr ⟨mt_1 _ (List.mem_of_getElem? (i := 21) rfl), fun _ h => absurd h List.not_mem_nil⟩⟩⟩⟩⟩⟩⟩⟩⟩⟩⟩⟩⟩⟩⟩⟩⟩⟩⟩⟩⟩⟩⟩⟩
theorem ck_53 : ∀ w ∈ wsL_law_r53, w ∈ lw_tbl := by
  unfold wsL_law_r53
  exact List.forall_mem_cons.mpr ⟨mt_5 _ (List.mem_of_getElem? (i := 148) rfl), List.forall_mem_cons.mpr ⟨mt_5 _ (List.mem_of_getElem? (i := 150) rfl), List.forall_mem_cons.mpr ⟨mt_5 _ (List.mem_of_getElem? (i := 152) rfl), List.forall_mem_cons.mpr ⟨mt_p _ (List.mem_of_getElem? (i := 36) rfl), List.forall_mem_cons.mpr ⟨mt_5 _ (List.mem_of_getElem? (i := 153) rfl), List.forall_mem_cons.mpr ⟨mt_8 _ (List.mem_of_getElem? (i := 194) rfl), List.forall_mem_cons.mpr ⟨mt_8 _ (List.mem_of_getElem? (i := 195) rfl), List.forall_mem_cons.mpr ⟨mt_8 _ (List.mem_of_getElem? (i := 196) rfl), List.forall_mem_cons.mpr ⟨mt_8 _ (List.mem_of_getElem? (i := 197) rfl), List.forall_mem_cons.mpr ⟨mt_8 _ (List.mem_of_getElem? (i := 202) rfl), List.forall_mem_cons.mpr ⟨mt_8 _ (List.mem_of_getElem? (i := 198) rfl), List.forall_mem_cons.mpr ⟨mt_8 _ (List.mem_of_getElem? (i := 200) rfl), List.forall_mem_cons.mpr ⟨mt_p _ (List.mem_of_getElem? (i := 87) rfl), List.forall_mem_cons.mpr ⟨mt_8 _ (List.mem_of_getElem? (i := 201) rfl), List.forall_mem_cons.mpr ⟨mt_8 _ (List.mem_of_getElem? (i := 203) rfl), List.forall_mem_cons.mpr ⟨mt_8 _ (List.mem_of_getElem? (i := 205) rfl), List.forall_mem_cons.mpr ⟨mt_p _ (List.mem_of_getElem? (i := 88) rfl), List.forall_mem_cons.mpr ⟨mt_8 _ (List.mem_of_getElem? (i := 206) rfl), List.forall_mem_cons.mpr ⟨mt_5 _ (List.mem_of_getElem? (i := 154) rfl), List.forall_mem_cons.mpr ⟨mt_5 _ (List.mem_of_getElem? (i := 155) rfl), List.forall_mem_cons.mpr ⟨mt_5 _ (List.mem_of_getElem? (i := 156) rfl), List.forall_mem_cons.mpr ⟨mt_5 _ (List.mem_of_getElem? (i := 157) rfl), List.forall_mem_cons.mpr ⟨mt_5 _ (List.mem_of_getElem? (i := 158) rfl), List.forall_mem_cons.mpr ⟨mt_5 _ (List.mem_of_getElem? (i := 159) rfl), fun _ h => absurd h List.not_mem_nil⟩⟩⟩⟩⟩⟩⟩⟩⟩⟩⟩⟩⟩⟩⟩⟩⟩⟩⟩⟩⟩⟩⟩⟩
theorem ck_54 : ∀ w ∈ wsL_law_r54, w ∈ lw_tbl := by
  unfold wsL_law_r54
  exact List.forall_mem_cons.mpr ⟨mt_5 _ (List.mem_of_getElem? (i := 160) rfl), List.forall_mem_cons.mpr ⟨mt_5 _ (List.mem_of_getElem? (i := 161) rfl), List.forall_mem_cons.mpr ⟨mt_5 _ (List.mem_of_getElem? (i := 169) rfl), List.forall_mem_cons.mpr ⟨mt_5 _ (List.mem_of_getElem? (i := 162) rfl), List.forall_mem_cons.mpr ⟨mt_5 _ (List.mem_of_getElem? (i := 164) rfl), List.forall_mem_cons.mpr ⟨mt_p _ (List.mem_of_getElem? (i := 37) rfl), List.forall_mem_cons.mpr ⟨mt_5 _ (List.mem_of_getElem? (i := 165) rfl), List.forall_mem_cons.mpr ⟨mt_5 _ (List.mem_of_getElem? (i := 166) rfl), List.forall_mem_cons.mpr ⟨mt_5 _ (List.mem_of_getElem? (i := 167) rfl), List.forall_mem_cons.mpr ⟨mt_5 _ (List.mem_of_getElem? (i := 168) rfl), List.forall_mem_cons.mpr ⟨mt_5 _ (List.mem_of_getElem? (i := 170) rfl), List.forall_mem_cons.mpr ⟨mt_5 _ (List.mem_of_getElem? (i := 172) rfl), List.forall_mem_cons.mpr ⟨mt_p _ (List.mem_of_getElem? (i := 38) rfl), List.forall_mem_cons.mpr ⟨mt_5 _ (List.mem_of_getElem? (i := 173) rfl), List.forall_mem_cons.mpr ⟨mt_5 _ (List.mem_of_getElem? (i := 174) rfl), List.forall_mem_cons.mpr ⟨mt_5 _ (List.mem_of_getElem? (i := 176) rfl), List.forall_mem_cons.mpr ⟨mt_p _ (List.mem_of_getElem? (i := 39) rfl), List.forall_mem_cons.mpr ⟨mt_5 _ (List.mem_of_getElem? (i := 177) rfl), List.forall_mem_cons.mpr ⟨mt_8 _ (List.mem_of_getElem? (i := 207) rfl), List.forall_mem_cons.mpr ⟨mt_8 _ (List.mem_of_getElem? (i := 208) rfl), List.forall_mem_cons.mpr ⟨mt_8 _ (List.mem_of_getElem? (i := 209) rfl), List.forall_mem_cons.mpr ⟨mt_8 _ (List.mem_of_getElem? (i := 210) rfl), List.forall_mem_cons.mpr ⟨mt_8 _ (List.mem_of_getElem? (i := 215) rfl), List.forall_mem_cons.mpr ⟨mt_8 _ (List.mem_of_getElem? (i := 211) rfl), fun _ h => absurd h List.not_mem_nil⟩⟩⟩⟩⟩⟩⟩⟩⟩⟩⟩⟩⟩⟩⟩⟩⟩⟩⟩⟩⟩⟩⟩⟩
theorem ck_55 : ∀ w ∈ wsL_law_r55, w ∈ lw_tbl := by
  unfold wsL_law_r55
  exact List.forall_mem_cons.mpr ⟨mt_8 _ (List.mem_of_getElem? (i := 213) rfl), List.forall_mem_cons.mpr ⟨mt_p _ (List.mem_of_getElem? (i := 89) rfl), List.forall_mem_cons.mpr ⟨mt_8 _ (List.mem_of_getElem? (i := 214) rfl), List.forall_mem_cons.mpr ⟨mt_5 _ (List.mem_of_getElem? (i := 178) rfl), List.forall_mem_cons.mpr ⟨mt_5 _ (List.mem_of_getElem? (i := 179) rfl), List.forall_mem_cons.mpr ⟨mt_5 _ (List.mem_of_getElem? (i := 180) rfl), List.forall_mem_cons.mpr ⟨mt_5 _ (List.mem_of_getElem? (i := 181) rfl), List.forall_mem_cons.mpr ⟨mt_2 _ (List.mem_of_getElem? (i := 80) rfl), List.forall_mem_cons.mpr ⟨mt_2 _ (List.mem_of_getElem? (i := 82) rfl), List.forall_mem_cons.mpr ⟨mt_2 _ (List.mem_of_getElem? (i := 84) rfl), List.forall_mem_cons.mpr ⟨mt_5 _ (List.mem_of_getElem? (i := 182) rfl), List.forall_mem_cons.mpr ⟨mt_5 _ (List.mem_of_getElem? (i := 183) rfl), List.forall_mem_cons.mpr ⟨mt_5 _ (List.mem_of_getElem? (i := 184) rfl), List.forall_mem_cons.mpr ⟨mt_5 _ (List.mem_of_getElem? (i := 185) rfl), List.forall_mem_cons.mpr ⟨mt_5 _ (List.mem_of_getElem? (i := 186) rfl), List.forall_mem_cons.mpr ⟨mt_5 _ (List.mem_of_getElem? (i := 187) rfl), List.forall_mem_cons.mpr ⟨mt_5 _ (List.mem_of_getElem? (i := 188) rfl), List.forall_mem_cons.mpr ⟨mt_5 _ (List.mem_of_getElem? (i := 189) rfl), List.forall_mem_cons.mpr ⟨mt_5 _ (List.mem_of_getElem? (i := 191) rfl), List.forall_mem_cons.mpr ⟨mt_p _ (List.mem_of_getElem? (i := 40) rfl), List.forall_mem_cons.mpr ⟨mt_5 _ (List.mem_of_getElem? (i := 192) rfl), List.forall_mem_cons.mpr ⟨mt_5 _ (List.mem_of_getElem? (i := 193) rfl), List.forall_mem_cons.mpr ⟨mt_5 _ (List.mem_of_getElem? (i := 194) rfl), List.forall_mem_cons.mpr ⟨mt_5 _ (List.mem_of_getElem? (i := 195) rfl), fun _ h => absurd h List.not_mem_nil⟩⟩⟩⟩⟩⟩⟩⟩⟩⟩⟩⟩⟩⟩⟩⟩⟩⟩⟩⟩⟩⟩⟩⟩
theorem ck_56 : ∀ w ∈ wsL_law_r56, w ∈ lw_tbl := by
  unfold wsL_law_r56
  exact List.forall_mem_cons.mpr ⟨mt_5 _ (List.mem_of_getElem? (i := 197) rfl), List.forall_mem_cons.mpr ⟨mt_p _ (List.mem_of_getElem? (i := 41) rfl), List.forall_mem_cons.mpr ⟨mt_5 _ (List.mem_of_getElem? (i := 198) rfl), List.forall_mem_cons.mpr ⟨mt_5 _ (List.mem_of_getElem? (i := 199) rfl), List.forall_mem_cons.mpr ⟨mt_5 _ (List.mem_of_getElem? (i := 201) rfl), List.forall_mem_cons.mpr ⟨mt_p _ (List.mem_of_getElem? (i := 42) rfl), List.forall_mem_cons.mpr ⟨mt_5 _ (List.mem_of_getElem? (i := 202) rfl), List.forall_mem_cons.mpr ⟨mt_5 _ (List.mem_of_getElem? (i := 203) rfl), List.forall_mem_cons.mpr ⟨mt_5 _ (List.mem_of_getElem? (i := 204) rfl), List.forall_mem_cons.mpr ⟨mt_5 _ (List.mem_of_getElem? (i := 205) rfl), List.forall_mem_cons.mpr ⟨mt_5 _ (List.mem_of_getElem? (i := 206) rfl), List.forall_mem_cons.mpr ⟨mt_5 _ (List.mem_of_getElem? (i := 207) rfl), List.forall_mem_cons.mpr ⟨mt_1 _ (List.mem_of_getElem? (i := 22) rfl), List.forall_mem_cons.mpr ⟨mt_5 _ (List.mem_of_getElem? (i := 208) rfl), List.forall_mem_cons.mpr ⟨mt_8 _ (List.mem_of_getElem? (i := 216) rfl), List.forall_mem_cons.mpr ⟨mt_8 _ (List.mem_of_getElem? (i := 217) rfl), List.forall_mem_cons.mpr ⟨mt_8 _ (List.mem_of_getElem? (i := 218) rfl), List.forall_mem_cons.mpr ⟨mt_8 _ (List.mem_of_getElem? (i := 219) rfl), List.forall_mem_cons.mpr ⟨mt_8 _ (List.mem_of_getElem? (i := 220) rfl), List.forall_mem_cons.mpr ⟨mt_8 _ (List.mem_of_getElem? (i := 221) rfl), List.forall_mem_cons.mpr ⟨mt_8 _ (List.mem_of_getElem? (i := 222) rfl), List.forall_mem_cons.mpr ⟨mt_8 _ (List.mem_of_getElem? (i := 223) rfl), List.forall_mem_cons.mpr ⟨mt_8 _ (List.mem_of_getElem? (i := 225) rfl), List.forall_mem_cons.mpr ⟨mt_p _ (List.mem_of_getElem? (i := 90) rfl), fun _ h => absurd h List.not_mem_nil⟩⟩⟩⟩⟩⟩⟩⟩⟩⟩⟩⟩⟩⟩⟩⟩⟩⟩⟩⟩⟩⟩⟩⟩
theorem ck_57 : ∀ w ∈ wsL_law_r57, w ∈ lw_tbl := by
  unfold wsL_law_r57
  exact List.forall_mem_cons.mpr ⟨mt_8 _ (List.mem_of_getElem? (i := 226) rfl), List.forall_mem_cons.mpr ⟨mt_8 _ (List.mem_of_getElem? (i := 227) rfl), List.forall_mem_cons.mpr ⟨mt_8 _ (List.mem_of_getElem? (i := 229) rfl), List.forall_mem_cons.mpr ⟨mt_p _ (List.mem_of_getElem? (i := 91) rfl), List.forall_mem_cons.mpr ⟨mt_8 _ (List.mem_of_getElem? (i := 230) rfl), List.forall_mem_cons.mpr ⟨mt_8 _ (List.mem_of_getElem? (i := 231) rfl), List.forall_mem_cons.mpr ⟨mt_8 _ (List.mem_of_getElem? (i := 233) rfl), List.forall_mem_cons.mpr ⟨mt_p _ (List.mem_of_getElem? (i := 92) rfl), List.forall_mem_cons.mpr ⟨mt_8 _ (List.mem_of_getElem? (i := 234) rfl), List.forall_mem_cons.mpr ⟨mt_5 _ (List.mem_of_getElem? (i := 209) rfl), List.forall_mem_cons.mpr ⟨mt_5 _ (List.mem_of_getElem? (i := 210) rfl), List.forall_mem_cons.mpr ⟨mt_5 _ (List.mem_of_getElem? (i := 211) rfl), List.forall_mem_cons.mpr ⟨mt_5 _ (List.mem_of_getElem? (i := 212) rfl), List.forall_mem_cons.mpr ⟨mt_5 _ (List.mem_of_getElem? (i := 213) rfl), List.forall_mem_cons.mpr ⟨mt_5 _ (List.mem_of_getElem? (i := 214) rfl), List.forall_mem_cons.mpr ⟨mt_5 _ (List.mem_of_getElem? (i := 215) rfl), List.forall_mem_cons.mpr ⟨mt_5 _ (List.mem_of_getElem? (i := 216) rfl), List.forall_mem_cons.mpr ⟨mt_5 _ (List.mem_of_getElem? (i := 217) rfl), List.forall_mem_cons.mpr ⟨mt_8 _ (List.mem_of_getElem? (i := 235) rfl), List.forall_mem_cons.mpr ⟨mt_8 _ (List.mem_of_getElem? (i := 236) rfl), List.forall_mem_cons.mpr ⟨mt_8 _ (List.mem_of_getElem? (i := 237) rfl), List.forall_mem_cons.mpr ⟨mt_8 _ (List.mem_of_getElem? (i := 238) rfl), List.forall_mem_cons.mpr ⟨mt_5 _ (List.mem_of_getElem? (i := 218) rfl), List.forall_mem_cons.mpr ⟨mt_5 _ (List.mem_of_getElem? (i := 219) rfl), fun _ h => absurd h List.not_mem_nil⟩⟩⟩⟩⟩⟩⟩⟩⟩⟩⟩⟩⟩⟩⟩⟩⟩⟩⟩⟩⟩⟩⟩⟩
theorem ck_58 : ∀ w ∈ wsL_law_r58, w ∈ lw_tbl := by
  unfold wsL_law_r58
  exact List.forall_mem_cons.mpr ⟨mt_5 _ (List.mem_of_getElem? (i := 220) rfl), List.forall_mem_cons.mpr ⟨mt_5 _ (List.mem_of_getElem? (i := 221) rfl), List.forall_mem_cons.mpr ⟨mt_5 _ (List.mem_of_getElem? (i := 222) rfl), List.forall_mem_cons.mpr ⟨mt_5 _ (List.mem_of_getElem? (i := 223) rfl), List.forall_mem_cons.mpr ⟨mt_5 _ (List.mem_of_getElem? (i := 224) rfl), List.forall_mem_cons.mpr ⟨mt_5 _ (List.mem_of_getElem? (i := 225) rfl), List.forall_mem_cons.mpr ⟨mt_5 _ (List.mem_of_getElem? (i := 226) rfl), List.forall_mem_cons.mpr ⟨mt_8 _ (List.mem_of_getElem? (i := 239) rfl), List.forall_mem_cons.mpr ⟨mt_9 _ (List.mem_of_getElem? (i := 0) rfl), List.forall_mem_cons.mpr ⟨mt_9 _ (List.mem_of_getElem? (i := 1) rfl), List.forall_mem_cons.mpr ⟨mt_9 _ (List.mem_of_getElem? (i := 2) rfl), List.forall_mem_cons.mpr ⟨mt_9 _ (List.mem_of_getElem? (i := 3) rfl), List.forall_mem_cons.mpr ⟨mt_5 _ (List.mem_of_getElem? (i := 227) rfl), List.forall_mem_cons.mpr ⟨mt_5 _ (List.mem_of_getElem? (i := 228) rfl), List.forall_mem_cons.mpr ⟨mt_5 _ (List.mem_of_getElem? (i := 229) rfl), List.forall_mem_cons.mpr ⟨mt_5 _ (List.mem_of_getElem? (i := 230) rfl), List.forall_mem_cons.mpr ⟨mt_5 _ (List.mem_of_getElem? (i := 231) rfl), List.forall_mem_cons.mpr ⟨mt_5 _ (List.mem_of_getElem? (i := 232) rfl), List.forall_mem_cons.mpr ⟨mt_5 _ (List.mem_of_getElem? (i := 233) rfl), List.forall_mem_cons.mpr ⟨mt_5 _ (List.mem_of_getElem? (i := 234) rfl), List.forall_mem_cons.mpr ⟨mt_5 _ (List.mem_of_getElem? (i := 235) rfl), List.forall_mem_cons.mpr ⟨mt_5 _ (List.mem_of_getElem? (i := 237) rfl), List.forall_mem_cons.mpr ⟨mt_p _ (List.mem_of_getElem? (i := 43) rfl), List.forall_mem_cons.mpr ⟨mt_5 _ (List.mem_of_getElem? (i := 238) rfl), fun _ h => absurd h List.not_mem_nil⟩⟩⟩⟩⟩⟩⟩⟩⟩⟩⟩⟩⟩⟩⟩⟩⟩⟩⟩⟩⟩⟩⟩⟩
theorem ck_59 : ∀ w ∈ wsL_law_r59, w ∈ lw_tbl := by
  unfold wsL_law_r59
  exact List.forall_mem_cons.mpr ⟨mt_9 _ (List.mem_of_getElem? (i := 4) rfl), List.forall_mem_cons.mpr ⟨mt_9 _ (List.mem_of_getElem? (i := 5) rfl), List.forall_mem_cons.mpr ⟨mt_9 _ (List.mem_of_getElem? (i := 6) rfl), List.forall_mem_cons.mpr ⟨mt_9 _ (List.mem_of_getElem? (i := 7) rfl), List.forall_mem_cons.mpr ⟨mt_9 _ (List.mem_of_getElem? (i := 8) rfl), List.forall_mem_cons.mpr ⟨mt_9 _ (List.mem_of_getElem? (i := 10) rfl), List.forall_mem_cons.mpr ⟨mt_p _ (List.mem_of_getElem? (i := 93) rfl), List.forall_mem_cons.mpr ⟨mt_9 _ (List.mem_of_getElem? (i := 11) rfl), List.forall_mem_cons.mpr ⟨mt_9 _ (List.mem_of_getElem? (i := 12) rfl), List.forall_mem_cons.mpr ⟨mt_9 _ (List.mem_of_getElem? (i := 14) rfl), List.forall_mem_cons.mpr ⟨mt_p _ (List.mem_of_getElem? (i := 94) rfl), List.forall_mem_cons.mpr ⟨mt_9 _ (List.mem_of_getElem? (i := 15) rfl), List.forall_mem_cons.mpr ⟨mt_5 _ (List.mem_of_getElem? (i := 239) rfl), List.forall_mem_cons.mpr ⟨mt_6 _ (List.mem_of_getElem? (i := 0) rfl), List.forall_mem_cons.mpr ⟨mt_6 _ (List.mem_of_getElem? (i := 1) rfl), List.forall_mem_cons.mpr ⟨mt_6 _ (List.mem_of_getElem? (i := 2) rfl), List.forall_mem_cons.mpr ⟨mt_6 _ (List.mem_of_getElem? (i := 3) rfl), List.forall_mem_cons.mpr ⟨mt_6 _ (List.mem_of_getElem? (i := 4) rfl), List.forall_mem_cons.mpr ⟨mt_6 _ (List.mem_of_getElem? (i := 5) rfl), List.forall_mem_cons.mpr ⟨mt_6 _ (List.mem_of_getElem? (i := 6) rfl), List.forall_mem_cons.mpr ⟨mt_9 _ (List.mem_of_getElem? (i := 16) rfl), List.forall_mem_cons.mpr ⟨mt_9 _ (List.mem_of_getElem? (i := 17) rfl), List.forall_mem_cons.mpr ⟨mt_9 _ (List.mem_of_getElem? (i := 18) rfl), List.forall_mem_cons.mpr ⟨mt_9 _ (List.mem_of_getElem? (i := 19) rfl), fun _ h => absurd h List.not_mem_nil⟩⟩⟩⟩⟩⟩⟩⟩⟩⟩⟩⟩⟩⟩⟩⟩⟩⟩⟩⟩⟩⟩⟩⟩
theorem ck_60 : ∀ w ∈ wsL_law_r60, w ∈ lw_tbl := by
  unfold wsL_law_r60
  exact List.forall_mem_cons.mpr ⟨mt_9 _ (List.mem_of_getElem? (i := 20) rfl), List.forall_mem_cons.mpr ⟨mt_9 _ (List.mem_of_getElem? (i := 22) rfl), List.forall_mem_cons.mpr ⟨mt_p _ (List.mem_of_getElem? (i := 95) rfl), List.forall_mem_cons.mpr ⟨mt_9 _ (List.mem_of_getElem? (i := 23) rfl), List.forall_mem_cons.mpr ⟨mt_6 _ (List.mem_of_getElem? (i := 7) rfl), List.forall_mem_cons.mpr ⟨mt_6 _ (List.mem_of_getElem? (i := 8) rfl), List.forall_mem_cons.mpr ⟨mt_6 _ (List.mem_of_getElem? (i := 9) rfl), List.forall_mem_cons.mpr ⟨mt_6 _ (List.mem_of_getElem? (i := 10) rfl), List.forall_mem_cons.mpr ⟨mt_6 _ (List.mem_of_getElem? (i := 11) rfl), List.forall_mem_cons.mpr ⟨mt_6 _ (List.mem_of_getElem? (i := 12) rfl), List.forall_mem_cons.mpr ⟨mt_6 _ (List.mem_of_getElem? (i := 13) rfl), List.forall_mem_cons.mpr ⟨mt_6 _ (List.mem_of_getElem? (i := 14) rfl), List.forall_mem_cons.mpr ⟨mt_6 _ (List.mem_of_getElem? (i := 27) rfl), List.forall_mem_cons.mpr ⟨mt_6 _ (List.mem_of_getElem? (i := 28) rfl), List.forall_mem_cons.mpr ⟨mt_6 _ (List.mem_of_getElem? (i := 29) rfl), List.forall_mem_cons.mpr ⟨mt_6 _ (List.mem_of_getElem? (i := 15) rfl), List.forall_mem_cons.mpr ⟨mt_6 _ (List.mem_of_getElem? (i := 17) rfl), List.forall_mem_cons.mpr ⟨mt_p _ (List.mem_of_getElem? (i := 44) rfl), List.forall_mem_cons.mpr ⟨mt_6 _ (List.mem_of_getElem? (i := 18) rfl), List.forall_mem_cons.mpr ⟨mt_6 _ (List.mem_of_getElem? (i := 19) rfl), List.forall_mem_cons.mpr ⟨mt_6 _ (List.mem_of_getElem? (i := 20) rfl), List.forall_mem_cons.mpr ⟨mt_6 _ (List.mem_of_getElem? (i := 21) rfl), List.forall_mem_cons.mpr ⟨mt_6 _ (List.mem_of_getElem? (i := 22) rfl), List.forall_mem_cons.mpr ⟨mt_6 _ (List.mem_of_getElem? (i := 23) rfl), fun _ h => absurd h List.not_mem_nil⟩⟩⟩⟩⟩⟩⟩⟩⟩⟩⟩⟩⟩⟩⟩⟩⟩⟩⟩⟩⟩⟩⟩⟩
theorem ck_61 : ∀ w ∈ wsL_law_r61, w ∈ lw_tbl := by
  unfold wsL_law_r61
  exact List.forall_mem_cons.mpr ⟨mt_6 _ (List.mem_of_getElem? (i := 25) rfl), List.forall_mem_cons.mpr ⟨mt_p _ (List.mem_of_getElem? (i := 45) rfl), List.forall_mem_cons.mpr ⟨mt_6 _ (List.mem_of_getElem? (i := 26) rfl), List.forall_mem_cons.mpr ⟨mt_9 _ (List.mem_of_getElem? (i := 24) rfl), List.forall_mem_cons.mpr ⟨mt_9 _ (List.mem_of_getElem? (i := 25) rfl), List.forall_mem_cons.mpr ⟨mt_9 _ (List.mem_of_getElem? (i := 26) rfl), List.forall_mem_cons.mpr ⟨mt_9 _ (List.mem_of_getElem? (i := 27) rfl), List.forall_mem_cons.mpr ⟨mt_9 _ (List.mem_of_getElem? (i := 28) rfl), List.forall_mem_cons.mpr ⟨mt_9 _ (List.mem_of_getElem? (i := 29) rfl), List.forall_mem_cons.mpr ⟨mt_9 _ (List.mem_of_getElem? (i := 30) rfl), List.forall_mem_cons.mpr ⟨mt_9 _ (List.mem_of_getElem? (i := 31) rfl), List.forall_mem_cons.mpr ⟨mt_9 _ (List.mem_of_getElem? (i := 33) rfl), List.forall_mem_cons.mpr ⟨mt_p _ (List.mem_of_getElem? (i := 96) rfl), List.forall_mem_cons.mpr ⟨mt_9 _ (List.mem_of_getElem? (i := 34) rfl), List.forall_mem_cons.mpr ⟨mt_9 _ (List.mem_of_getElem? (i := 35) rfl), List.forall_mem_cons.mpr ⟨mt_9 _ (List.mem_of_getElem? (i := 36) rfl), List.forall_mem_cons.mpr ⟨mt_9 _ (List.mem_of_getElem? (i := 37) rfl), List.forall_mem_cons.mpr ⟨mt_6 _ (List.mem_of_getElem? (i := 30) rfl), List.forall_mem_cons.mpr ⟨mt_6 _ (List.mem_of_getElem? (i := 31) rfl), List.forall_mem_cons.mpr ⟨mt_6 _ (List.mem_of_getElem? (i := 32) rfl), List.forall_mem_cons.mpr ⟨mt_6 _ (List.mem_of_getElem? (i := 33) rfl), List.forall_mem_cons.mpr ⟨mt_6 _ (List.mem_of_getElem? (i := 34) rfl), List.forall_mem_cons.mpr ⟨mt_6 _ (List.mem_of_getElem? (i := 35) rfl), List.forall_mem_cons.mpr ⟨mt_6 _ (List.mem_of_getElem? (i := 36) rfl), fun _ h => absurd h List.not_mem_nil⟩⟩⟩⟩⟩⟩⟩⟩⟩⟩⟩⟩⟩⟩⟩⟩⟩⟩⟩⟩⟩⟩⟩⟩
theorem ck_62 : ∀ w ∈ wsL_law_r62, w ∈ lw_tbl := by
  unfold wsL_law_r62
  exact List.forall_mem_cons.mpr ⟨mt_6 _ (List.mem_of_getElem? (i := 37) rfl), List.forall_mem_cons.mpr ⟨mt_6 _ (List.mem_of_getElem? (i := 38) rfl), List.forall_mem_cons.mpr ⟨mt_6 _ (List.mem_of_getElem? (i := 39) rfl), List.forall_mem_cons.mpr ⟨mt_9 _ (List.mem_of_getElem? (i := 38) rfl), List.forall_mem_cons.mpr ⟨mt_9 _ (List.mem_of_getElem? (i := 39) rfl), List.forall_mem_cons.mpr ⟨mt_9 _ (List.mem_of_getElem? (i := 40) rfl), List.forall_mem_cons.mpr ⟨mt_9 _ (List.mem_of_getElem? (i := 41) rfl), List.forall_mem_cons.mpr ⟨mt_9 _ (List.mem_of_getElem? (i := 42) rfl), List.forall_mem_cons.mpr ⟨mt_6 _ (List.mem_of_getElem? (i := 191) rfl), List.forall_mem_cons.mpr ⟨mt_6 _ (List.mem_of_getElem? (i := 190) rfl), List.forall_mem_cons.mpr ⟨mt_9 _ (List.mem_of_getElem? (i := 43) rfl), List.forall_mem_cons.mpr ⟨mt_9 _ (List.mem_of_getElem? (i := 45) rfl), List.forall_mem_cons.mpr ⟨mt_p _ (List.mem_of_getElem? (i := 97) rfl), List.forall_mem_cons.mpr ⟨mt_9 _ (List.mem_of_getElem? (i := 46) rfl), List.forall_mem_cons.mpr ⟨mt_6 _ (List.mem_of_getElem? (i := 40) rfl), List.forall_mem_cons.mpr ⟨mt_6 _ (List.mem_of_getElem? (i := 41) rfl), List.forall_mem_cons.mpr ⟨mt_6 _ (List.mem_of_getElem? (i := 42) rfl), List.forall_mem_cons.mpr ⟨mt_6 _ (List.mem_of_getElem? (i := 43) rfl), List.forall_mem_cons.mpr ⟨mt_6 _ (List.mem_of_getElem? (i := 44) rfl), List.forall_mem_cons.mpr ⟨mt_6 _ (List.mem_of_getElem? (i := 45) rfl), List.forall_mem_cons.mpr ⟨mt_6 _ (List.mem_of_getElem? (i := 46) rfl), List.forall_mem_cons.mpr ⟨mt_6 _ (List.mem_of_getElem? (i := 47) rfl), List.forall_mem_cons.mpr ⟨mt_6 _ (List.mem_of_getElem? (i := 48) rfl), List.forall_mem_cons.mpr ⟨mt_6 _ (List.mem_of_getElem? (i := 49) rfl), fun _ h => absurd h List.not_mem_nil⟩⟩⟩⟩⟩⟩⟩⟩⟩⟩⟩⟩⟩⟩⟩⟩⟩⟩⟩⟩⟩⟩⟩⟩
theorem ck_63 : ∀ w ∈ wsL_law_r63, w ∈ lw_tbl := by
  unfold wsL_law_r63
  exact List.forall_mem_cons.mpr ⟨mt_6 _ (List.mem_of_getElem? (i := 50) rfl), List.forall_mem_cons.mpr ⟨mt_6 _ (List.mem_of_getElem? (i := 51) rfl), List.forall_mem_cons.mpr ⟨mt_6 _ (List.mem_of_getElem? (i := 52) rfl), List.forall_mem_cons.mpr ⟨mt_6 _ (List.mem_of_getElem? (i := 53) rfl), List.forall_mem_cons.mpr ⟨mt_9 _ (List.mem_of_getElem? (i := 47) rfl), List.forall_mem_cons.mpr ⟨mt_9 _ (List.mem_of_getElem? (i := 48) rfl), List.forall_mem_cons.mpr ⟨mt_9 _ (List.mem_of_getElem? (i := 49) rfl), List.forall_mem_cons.mpr ⟨mt_9 _ (List.mem_of_getElem? (i := 50) rfl), List.forall_mem_cons.mpr ⟨mt_6 _ (List.mem_of_getElem? (i := 54) rfl), List.forall_mem_cons.mpr ⟨mt_6 _ (List.mem_of_getElem? (i := 55) rfl), List.forall_mem_cons.mpr ⟨mt_6 _ (List.mem_of_getElem? (i := 56) rfl), List.forall_mem_cons.mpr ⟨mt_6 _ (List.mem_of_getElem? (i := 57) rfl), List.forall_mem_cons.mpr ⟨mt_2 _ (List.mem_of_getElem? (i := 146) rfl), List.forall_mem_cons.mpr ⟨mt_2 _ (List.mem_of_getElem? (i := 144) rfl), List.forall_mem_cons.mpr ⟨mt_6 _ (List.mem_of_getElem? (i := 58) rfl), List.forall_mem_cons.mpr ⟨mt_6 _ (List.mem_of_getElem? (i := 59) rfl), List.forall_mem_cons.mpr ⟨mt_6 _ (List.mem_of_getElem? (i := 60) rfl), List.forall_mem_cons.mpr ⟨mt_6 _ (List.mem_of_getElem? (i := 61) rfl), List.forall_mem_cons.mpr ⟨mt_6 _ (List.mem_of_getElem? (i := 63) rfl), List.forall_mem_cons.mpr ⟨mt_6 _ (List.mem_of_getElem? (i := 62) rfl), List.forall_mem_cons.mpr ⟨mt_6 _ (List.mem_of_getElem? (i := 64) rfl), List.forall_mem_cons.mpr ⟨mt_6 _ (List.mem_of_getElem? (i := 65) rfl), List.forall_mem_cons.mpr ⟨mt_6 _ (List.mem_of_getElem? (i := 66) rfl), List.forall_mem_cons.mpr ⟨mt_6 _ (List.mem_of_getElem? (i := 67) rfl), fun _ h => absurd h List.not_mem_nil⟩⟩⟩⟩⟩⟩⟩⟩⟩⟩⟩⟩⟩⟩⟩⟩⟩⟩⟩⟩⟩⟩⟩⟩
theorem ck_64 : ∀ w ∈ wsL_law_r64, w ∈ lw_tbl := by
  unfold wsL_law_r64
  exact List.forall_mem_cons.mpr ⟨mt_9 _ (List.mem_of_getElem? (i := 51) rfl), List.forall_mem_cons.mpr ⟨mt_9 _ (List.mem_of_getElem? (i := 52) rfl), List.forall_mem_cons.mpr ⟨mt_9 _ (List.mem_of_getElem? (i := 53) rfl), List.forall_mem_cons.mpr ⟨mt_9 _ (List.mem_of_getElem? (i := 54) rfl), List.forall_mem_cons.mpr ⟨mt_6 _ (List.mem_of_getElem? (i := 192) rfl), List.forall_mem_cons.mpr ⟨mt_6 _ (List.mem_of_getElem? (i := 193) rfl), List.forall_mem_cons.mpr ⟨mt_9 _ (List.mem_of_getElem? (i := 55) rfl), List.forall_mem_cons.mpr ⟨mt_9 _ (List.mem_of_getElem? (i := 57) rfl), List.forall_mem_cons.mpr ⟨mt_p _ (List.mem_of_getElem? (i := 98) rfl), List.forall_mem_cons.mpr ⟨mt_9 _ (List.mem_of_getElem? (i := 58) rfl), List.forall_mem_cons.mpr ⟨mt_9 _ (List.mem_of_getElem? (i := 59) rfl), List.forall_mem_cons.mpr ⟨mt_9 _ (List.mem_of_getElem? (i := 60) rfl), List.forall_mem_cons.mpr ⟨mt_9 _ (List.mem_of_getElem? (i := 61) rfl), List.forall_mem_cons.mpr ⟨mt_9 _ (List.mem_of_getElem? (i := 62) rfl), List.forall_mem_cons.mpr ⟨mt_6 _ (List.mem_of_getElem? (i := 68) rfl), List.forall_mem_cons.mpr ⟨mt_6 _ (List.mem_of_getElem? (i := 69) rfl), List.forall_mem_cons.mpr ⟨mt_6 _ (List.mem_of_getElem? (i := 70) rfl), List.forall_mem_cons.mpr ⟨mt_6 _ (List.mem_of_getElem? (i := 71) rfl), List.forall_mem_cons.mpr ⟨mt_2 _ (List.mem_of_getElem? (i := 148) rfl), List.forall_mem_cons.mpr ⟨mt_2 _ (List.mem_of_getElem? (i := 150) rfl), List.forall_mem_cons.mpr ⟨mt_6 _ (List.mem_of_getElem? (i := 72) rfl), List.forall_mem_cons.mpr ⟨mt_6 _ (List.mem_of_getElem? (i := 73) rfl), List.forall_mem_cons.mpr ⟨mt_6 _ (List.mem_of_getElem? (i := 74) rfl), List.forall_mem_cons.mpr ⟨mt_6 _ (List.mem_of_getElem? (i := 75) rfl), fun _ h => absurd h List.not_mem_nil⟩⟩⟩⟩⟩⟩⟩⟩⟩⟩⟩⟩⟩⟩⟩⟩⟩⟩⟩⟩⟩⟩⟩⟩
theorem ck_65 : ∀ w ∈ wsL_law_r65, w ∈ lw_tbl := by
  unfold wsL_law_r65
  exact List.forall_mem_cons.mpr ⟨mt_6 _ (List.mem_of_getElem? (i := 76) rfl), List.forall_mem_cons.mpr ⟨mt_6 _ (List.mem_of_getElem? (i := 77) rfl), List.forall_mem_cons.mpr ⟨mt_6 _ (List.mem_of_getElem? (i := 78) rfl), List.forall_mem_cons.mpr ⟨mt_6 _ (List.mem_of_getElem? (i := 79) rfl), List.forall_mem_cons.mpr ⟨mt_6 _ (List.mem_of_getElem? (i := 80) rfl), List.forall_mem_cons.mpr ⟨mt_6 _ (List.mem_of_getElem? (i := 81) rfl), List.forall_mem_cons.mpr ⟨mt_6 _ (List.mem_of_getElem? (i := 82) rfl), List.forall_mem_cons.mpr ⟨mt_6 _ (List.mem_of_getElem? (i := 83) rfl), List.forall_mem_cons.mpr ⟨mt_6 _ (List.mem_of_getElem? (i := 84) rfl), List.forall_mem_cons.mpr ⟨mt_6 _ (List.mem_of_getElem? (i := 85) rfl), List.forall_mem_cons.mpr ⟨mt_9 _ (List.mem_of_getElem? (i := 63) rfl), List.forall_mem_cons.mpr ⟨mt_9 _ (List.mem_of_getElem? (i := 64) rfl), List.forall_mem_cons.mpr ⟨mt_9 _ (List.mem_of_getElem? (i := 65) rfl), List.forall_mem_cons.mpr ⟨mt_9 _ (List.mem_of_getElem? (i := 66) rfl), List.forall_mem_cons.mpr ⟨mt_6 _ (List.mem_of_getElem? (i := 86) rfl), List.forall_mem_cons.mpr ⟨mt_6 _ (List.mem_of_getElem? (i := 87) rfl), List.forall_mem_cons.mpr ⟨mt_6 _ (List.mem_of_getElem? (i := 88) rfl), List.forall_mem_cons.mpr ⟨mt_6 _ (List.mem_of_getElem? (i := 89) rfl), List.forall_mem_cons.mpr ⟨mt_6 _ (List.mem_of_getElem? (i := 90) rfl), List.forall_mem_cons.mpr ⟨mt_6 _ (List.mem_of_getElem? (i := 91) rfl), List.forall_mem_cons.mpr ⟨mt_6 _ (List.mem_of_getElem? (i := 92) rfl), List.forall_mem_cons.mpr ⟨mt_6 _ (List.mem_of_getElem? (i := 93) rfl), List.forall_mem_cons.mpr ⟨mt_6 _ (List.mem_of_getElem? (i := 94) rfl), List.forall_mem_cons.mpr ⟨mt_9 _ (List.mem_of_getElem? (i := 67) rfl), fun _ h => absurd h List.not_mem_nil⟩⟩⟩⟩⟩⟩⟩⟩⟩⟩⟩⟩⟩⟩⟩⟩⟩⟩⟩⟩⟩⟩⟩⟩
theorem ck_66 : ∀ w ∈ wsL_law_r66, w ∈ lw_tbl := by
  unfold wsL_law_r66
  exact List.forall_mem_cons.mpr ⟨mt_9 _ (List.mem_of_getElem? (i := 68) rfl), List.forall_mem_cons.mpr ⟨mt_9 _ (List.mem_of_getElem? (i := 69) rfl), List.forall_mem_cons.mpr ⟨mt_9 _ (List.mem_of_getElem? (i := 70) rfl), List.forall_mem_cons.mpr ⟨mt_6 _ (List.mem_of_getElem? (i := 95) rfl), List.forall_mem_cons.mpr ⟨mt_6 _ (List.mem_of_getElem? (i := 96) rfl), List.forall_mem_cons.mpr ⟨mt_6 _ (List.mem_of_getElem? (i := 97) rfl), List.forall_mem_cons.mpr ⟨mt_6 _ (List.mem_of_getElem? (i := 98) rfl), List.forall_mem_cons.mpr ⟨mt_6 _ (List.mem_of_getElem? (i := 99) rfl), List.forall_mem_cons.mpr ⟨mt_6 _ (List.mem_of_getElem? (i := 100) rfl), List.forall_mem_cons.mpr ⟨mt_6 _ (List.mem_of_getElem? (i := 101) rfl), List.forall_mem_cons.mpr ⟨mt_6 _ (List.mem_of_getElem? (i := 102) rfl), List.forall_mem_cons.mpr ⟨mt_6 _ (List.mem_of_getElem? (i := 103) rfl), List.forall_mem_cons.mpr ⟨mt_7 _ (List.mem_of_getElem? (i := 105) rfl), List.forall_mem_cons.mpr ⟨mt_7 _ (List.mem_of_getElem? (i := 106) rfl), List.forall_mem_cons.mpr ⟨mt_7 _ (List.mem_of_getElem? (i := 107) rfl), List.forall_mem_cons.mpr ⟨mt_7 _ (List.mem_of_getElem? (i := 108) rfl), List.forall_mem_cons.mpr ⟨mt_6 _ (List.mem_of_getElem? (i := 131) rfl), List.forall_mem_cons.mpr ⟨mt_7 _ (List.mem_of_getElem? (i := 113) rfl), List.forall_mem_cons.mpr ⟨mt_7 _ (List.mem_of_getElem? (i := 115) rfl), List.forall_mem_cons.mpr ⟨mt_p _ (List.mem_of_getElem? (i := 47) rfl), List.forall_mem_cons.mpr ⟨mt_7 _ (List.mem_of_getElem? (i := 116) rfl), List.forall_mem_cons.mpr ⟨mt_6 _ (List.mem_of_getElem? (i := 104) rfl), List.forall_mem_cons.mpr ⟨mt_6 _ (List.mem_of_getElem? (i := 105) rfl), List.forall_mem_cons.mpr ⟨mt_6 _ (List.mem_of_getElem? (i := 106) rfl), fun _ h => absurd h List.not_mem_nil⟩⟩⟩⟩⟩⟩⟩⟩⟩⟩⟩⟩⟩⟩⟩⟩⟩⟩⟩⟩⟩⟩⟩⟩
theorem ck_67 : ∀ w ∈ wsL_law_r67, w ∈ lw_tbl := by
  unfold wsL_law_r67
  exact List.forall_mem_cons.mpr ⟨mt_6 _ (List.mem_of_getElem? (i := 107) rfl), List.forall_mem_cons.mpr ⟨mt_7 _ (List.mem_of_getElem? (i := 117) rfl), List.forall_mem_cons.mpr ⟨mt_7 _ (List.mem_of_getElem? (i := 118) rfl), List.forall_mem_cons.mpr ⟨mt_7 _ (List.mem_of_getElem? (i := 119) rfl), List.forall_mem_cons.mpr ⟨mt_7 _ (List.mem_of_getElem? (i := 120) rfl), List.forall_mem_cons.mpr ⟨mt_6 _ (List.mem_of_getElem? (i := 108) rfl), List.forall_mem_cons.mpr ⟨mt_6 _ (List.mem_of_getElem? (i := 109) rfl), List.forall_mem_cons.mpr ⟨mt_6 _ (List.mem_of_getElem? (i := 110) rfl), List.forall_mem_cons.mpr ⟨mt_6 _ (List.mem_of_getElem? (i := 111) rfl), List.forall_mem_cons.mpr ⟨mt_9 _ (List.mem_of_getElem? (i := 71) rfl), List.forall_mem_cons.mpr ⟨mt_9 _ (List.mem_of_getElem? (i := 72) rfl), List.forall_mem_cons.mpr ⟨mt_9 _ (List.mem_of_getElem? (i := 73) rfl), List.forall_mem_cons.mpr ⟨mt_9 _ (List.mem_of_getElem? (i := 74) rfl), fun _ h => absurd h List.not_mem_nil⟩⟩⟩⟩⟩⟩⟩⟩⟩⟩⟩⟩⟩
theorem ul_0 : wsX00 = [.laysFinal "LuckLinks$Chances" "LuckLinks$Chances" "lot" "[J", .laysFinal "LuckLinks$Chances" "LuckLinks$Chances" "waysSoFar" "[J", .laysFinal "LuckLinks$Chances" "LuckLinks$Chances" "lotFrom" "[J", .laysFinal "LuckLinks$Chances" "LuckLinks$Chances" "step" "[J", .laysFinal "LuckLinks$Chances" "LuckLinks$Chances" "gap" "[J", .laysFinal "LuckLinks$Chances" "LuckLinks$Chances" "nextGap" "[J", .lays "LuckLinks$Chances" "LuckLinks$Chances" "greatestStep" "J", .lays "LuckLinks$Chances" "LuckLinks$Chances" "reach" "I", .laysFinal "LuckLinks$Chances" "LuckLinks$Chances" "strokes" "[I"] := rfl
theorem uw_0 : ∀ w ∈ wsX00, w ∈ lw_tbl := by
  rw [ul_0]
  exact List.forall_mem_cons.mpr ⟨mt_2 _ (List.mem_of_getElem? (i := 117) rfl), List.forall_mem_cons.mpr ⟨mt_2 _ (List.mem_of_getElem? (i := 119) rfl), List.forall_mem_cons.mpr ⟨mt_2 _ (List.mem_of_getElem? (i := 121) rfl), List.forall_mem_cons.mpr ⟨mt_2 _ (List.mem_of_getElem? (i := 123) rfl), List.forall_mem_cons.mpr ⟨mt_2 _ (List.mem_of_getElem? (i := 125) rfl), List.forall_mem_cons.mpr ⟨mt_2 _ (List.mem_of_getElem? (i := 127) rfl), List.forall_mem_cons.mpr ⟨mt_2 _ (List.mem_of_getElem? (i := 129) rfl), List.forall_mem_cons.mpr ⟨mt_2 _ (List.mem_of_getElem? (i := 131) rfl), List.forall_mem_cons.mpr ⟨mt_2 _ (List.mem_of_getElem? (i := 133) rfl), fun _ h => absurd h List.not_mem_nil⟩⟩⟩⟩⟩⟩⟩⟩⟩
theorem ul_1 : wsX10 = [.laysFinal "LuckLinks$Form" "LuckLinks$Form" "world" "LLuckLinks$World;", .laysFinal "LuckLinks$Form" "LuckLinks$Form" "offs" "[J", .laysFinal "LuckLinks$Form" "LuckLinks$Form" "many" "[I", .lays "LuckLinks$Form" "LuckLinks$Form" "upper" "J", .lays "LuckLinks$Form" "LuckLinks$Form" "lower" "J"] := rfl
theorem uw_1 : ∀ w ∈ wsX10, w ∈ lw_tbl := by
  rw [ul_1]
  exact List.forall_mem_cons.mpr ⟨mt_2 _ (List.mem_of_getElem? (i := 56) rfl), List.forall_mem_cons.mpr ⟨mt_2 _ (List.mem_of_getElem? (i := 58) rfl), List.forall_mem_cons.mpr ⟨mt_2 _ (List.mem_of_getElem? (i := 60) rfl), List.forall_mem_cons.mpr ⟨mt_2 _ (List.mem_of_getElem? (i := 62) rfl), List.forall_mem_cons.mpr ⟨mt_2 _ (List.mem_of_getElem? (i := 64) rfl), fun _ h => absurd h List.not_mem_nil⟩⟩⟩⟩⟩
theorem ul_2 : wsX20 = [.laysFinal "LuckLinks$Halves" "LuckLinks$Halves" "world" "LLuckLinks$World;", .laysFinal "LuckLinks$Halves" "LuckLinks$Halves" "firstOffs" "[J", .laysFinal "LuckLinks$Halves" "LuckLinks$Halves" "firstRounds" "[J", .laysFinal "LuckLinks$Halves" "LuckLinks$Halves" "laterOffs" "[J", .laysFinal "LuckLinks$Halves" "LuckLinks$Halves" "laterRounds" "[J", .lays "LuckLinks$Halves" "LuckLinks$Halves" "alike" "I", .lays "LuckLinks$Halves" "LuckLinks$Halves" "unlike" "I", .lays "LuckLinks$Halves" "LuckLinks$Halves" "inBoth" "I"] := rfl
theorem uw_2 : ∀ w ∈ wsX20, w ∈ lw_tbl := by
  rw [ul_2]
  exact List.forall_mem_cons.mpr ⟨mt_2 _ (List.mem_of_getElem? (i := 85) rfl), List.forall_mem_cons.mpr ⟨mt_2 _ (List.mem_of_getElem? (i := 87) rfl), List.forall_mem_cons.mpr ⟨mt_2 _ (List.mem_of_getElem? (i := 89) rfl), List.forall_mem_cons.mpr ⟨mt_2 _ (List.mem_of_getElem? (i := 91) rfl), List.forall_mem_cons.mpr ⟨mt_2 _ (List.mem_of_getElem? (i := 93) rfl), List.forall_mem_cons.mpr ⟨mt_2 _ (List.mem_of_getElem? (i := 95) rfl), List.forall_mem_cons.mpr ⟨mt_2 _ (List.mem_of_getElem? (i := 97) rfl), List.forall_mem_cons.mpr ⟨mt_2 _ (List.mem_of_getElem? (i := 99) rfl), fun _ h => absurd h List.not_mem_nil⟩⟩⟩⟩⟩⟩⟩⟩
theorem ul_3 : wsX30 = [.lays "LuckLinks$Law" "LuckLinks$Law" "rules" "I", .laysFinal "LuckLinks$Law" "LuckLinks$Law" "drifts" "[I", .laysFinal "LuckLinks$Law" "LuckLinks$Law" "lucks" "[I", .laysFinal "LuckLinks$Law" "LuckLinks$Law" "keeps" "[I", .laysFinal "LuckLinks$Law" "LuckLinks$Law" "prizes" "[I", .laysFinal "LuckLinks$Law" "LuckLinks$Law" "points" "[I", .laysFinal "LuckLinks$Law" "LuckLinks$Law" "weights" "[I", .laysFinal "LuckLinks$Law" "LuckLinks$Law" "weightsByAge" "[I", .lays "LuckLinks$Law" "LuckLinks$Law" "hourRules" "I", .laysFinal "LuckLinks$Law" "LuckLinks$Law" "hourParts" "[I", .laysFinal "LuckLinks$Law" "LuckLinks$Law" "hourStrokes" "[I", .laysFinal "LuckLinks$Law" "LuckLinks$Law" "hourFroms" "[I", .lays "LuckLinks$Law" "LuckLinks$Law" "pressRules" "I", .laysFinal "LuckLinks$Law" "LuckLinks$Law" "pressParts" "[I", .laysFinal "LuckLinks$Law" "LuckLinks$Law" "pressStrokes" "[I", .laysFinal "LuckLinks$Law" "LuckLinks$Law" "pressEnds" "[I", .laysFinal "LuckLinks$Law" "LuckLinks$Law" "code" "[I", .lays "LuckLinks$Law" "LuckLinks$Law" "codeLength" "I", .laysFinal "LuckLinks$Law" "LuckLinks$Law" "stack" "[Z"] := rfl
theorem uw_3 : ∀ w ∈ wsX30, w ∈ lw_tbl := by
  rw [ul_3]
  exact List.forall_mem_cons.mpr ⟨mt_1 _ (List.mem_of_getElem? (i := 139) rfl), List.forall_mem_cons.mpr ⟨mt_1 _ (List.mem_of_getElem? (i := 141) rfl), List.forall_mem_cons.mpr ⟨mt_1 _ (List.mem_of_getElem? (i := 143) rfl), List.forall_mem_cons.mpr ⟨mt_1 _ (List.mem_of_getElem? (i := 145) rfl), List.forall_mem_cons.mpr ⟨mt_1 _ (List.mem_of_getElem? (i := 147) rfl), List.forall_mem_cons.mpr ⟨mt_1 _ (List.mem_of_getElem? (i := 149) rfl), List.forall_mem_cons.mpr ⟨mt_1 _ (List.mem_of_getElem? (i := 151) rfl), List.forall_mem_cons.mpr ⟨mt_1 _ (List.mem_of_getElem? (i := 153) rfl), List.forall_mem_cons.mpr ⟨mt_1 _ (List.mem_of_getElem? (i := 155) rfl), List.forall_mem_cons.mpr ⟨mt_1 _ (List.mem_of_getElem? (i := 157) rfl), List.forall_mem_cons.mpr ⟨mt_1 _ (List.mem_of_getElem? (i := 159) rfl), List.forall_mem_cons.mpr ⟨mt_1 _ (List.mem_of_getElem? (i := 161) rfl), List.forall_mem_cons.mpr ⟨mt_1 _ (List.mem_of_getElem? (i := 163) rfl), List.forall_mem_cons.mpr ⟨mt_1 _ (List.mem_of_getElem? (i := 165) rfl), List.forall_mem_cons.mpr ⟨mt_1 _ (List.mem_of_getElem? (i := 167) rfl), List.forall_mem_cons.mpr ⟨mt_1 _ (List.mem_of_getElem? (i := 169) rfl), List.forall_mem_cons.mpr ⟨mt_1 _ (List.mem_of_getElem? (i := 171) rfl), List.forall_mem_cons.mpr ⟨mt_1 _ (List.mem_of_getElem? (i := 173) rfl), List.forall_mem_cons.mpr ⟨mt_1 _ (List.mem_of_getElem? (i := 175) rfl), fun _ h => absurd h List.not_mem_nil⟩⟩⟩⟩⟩⟩⟩⟩⟩⟩⟩⟩⟩⟩⟩⟩⟩⟩⟩
theorem ul_4 : wsX40 = [.lays "LuckLinks$LawReader" "LuckLinks$LawReader" "text" "[B", .lays "LuckLinks$LawReader" "LuckLinks$LawReader" "law" "LLuckLinks$Law;", .laysFinal "LuckLinks$LawReader" "LuckLinks$LawReader" "kinds" "[I", .laysFinal "LuckLinks$LawReader" "LuckLinks$LawReader" "starts" "[I", .laysFinal "LuckLinks$LawReader" "LuckLinks$LawReader" "ends" "[I", .lays "LuckLinks$LawReader" "LuckLinks$LawReader" "at" "I", .lays "LuckLinks$LawReader" "LuckLinks$LawReader" "number" "I", .lays "LuckLinks$LawReader" "LuckLinks$LawReader" "part" "I", .laysFinal "LuckLinks$LawReader" "LuckLinks$LawReader" "waiting" "[I", .lays "LuckLinks$LawReader" "LuckLinks$LawReader" "waits" "I", .lays "LuckLinks$LawReader" "LuckLinks$LawReader" "open" "I", .lays "LuckLinks$LawReader" "LuckLinks$LawReader" "brackets" "I"] := rfl
theorem uw_4 : ∀ w ∈ wsX40, w ∈ lw_tbl := by
  rw [ul_4]
  exact List.forall_mem_cons.mpr ⟨mt_1 _ (List.mem_of_getElem? (i := 192) rfl), List.forall_mem_cons.mpr ⟨mt_1 _ (List.mem_of_getElem? (i := 194) rfl), List.forall_mem_cons.mpr ⟨mt_1 _ (List.mem_of_getElem? (i := 196) rfl), List.forall_mem_cons.mpr ⟨mt_1 _ (List.mem_of_getElem? (i := 198) rfl), List.forall_mem_cons.mpr ⟨mt_1 _ (List.mem_of_getElem? (i := 200) rfl), List.forall_mem_cons.mpr ⟨mt_1 _ (List.mem_of_getElem? (i := 202) rfl), List.forall_mem_cons.mpr ⟨mt_1 _ (List.mem_of_getElem? (i := 204) rfl), List.forall_mem_cons.mpr ⟨mt_1 _ (List.mem_of_getElem? (i := 206) rfl), List.forall_mem_cons.mpr ⟨mt_1 _ (List.mem_of_getElem? (i := 208) rfl), List.forall_mem_cons.mpr ⟨mt_1 _ (List.mem_of_getElem? (i := 210) rfl), List.forall_mem_cons.mpr ⟨mt_1 _ (List.mem_of_getElem? (i := 212) rfl), List.forall_mem_cons.mpr ⟨mt_1 _ (List.mem_of_getElem? (i := 214) rfl), fun _ h => absurd h List.not_mem_nil⟩⟩⟩⟩⟩⟩⟩⟩⟩⟩⟩⟩
theorem ul_5 : wsX50 = [.laysFinal "LuckLinks$Ranking" "LuckLinks$Ranking" "who" "[I", .laysFinal "LuckLinks$Ranking" "LuckLinks$Ranking" "keys" "[I", .lays "LuckLinks$Ranking" "LuckLinks$Ranking" "size" "I"] := rfl
theorem uw_5 : ∀ w ∈ wsX50, w ∈ lw_tbl := by
  rw [ul_5]
  exact List.forall_mem_cons.mpr ⟨mt_2 _ (List.mem_of_getElem? (i := 7) rfl), List.forall_mem_cons.mpr ⟨mt_2 _ (List.mem_of_getElem? (i := 9) rfl), List.forall_mem_cons.mpr ⟨mt_2 _ (List.mem_of_getElem? (i := 11) rfl), fun _ h => absurd h List.not_mem_nil⟩⟩⟩
theorem ul_6 : wsX60 = [.lays "LuckLinks$Ratio" "LuckLinks$Ratio" "upper" "J", .lays "LuckLinks$Ratio" "LuckLinks$Ratio" "lower" "J"] := rfl
theorem uw_6 : ∀ w ∈ wsX60, w ∈ lw_tbl := by
  rw [ul_6]
  exact List.forall_mem_cons.mpr ⟨mt_1 _ (List.mem_of_getElem? (i := 227) rfl), List.forall_mem_cons.mpr ⟨mt_1 _ (List.mem_of_getElem? (i := 229) rfl), fun _ h => absurd h List.not_mem_nil⟩⟩
theorem ul_7 : wsX70 = [.laysFinal "LuckLinks$Standings" "LuckLinks$Standings" "world" "LLuckLinks$World;", .laysFinal "LuckLinks$Standings" "LuckLinks$Standings" "ranking" "LLuckLinks$Ranking;", .laysFinal "LuckLinks$Standings" "LuckLinks$Standings" "gains" "[I"] := rfl
theorem uw_7 : ∀ w ∈ wsX70, w ∈ lw_tbl := by
  rw [ul_7]
  exact List.forall_mem_cons.mpr ⟨mt_2 _ (List.mem_of_getElem? (i := 38) rfl), List.forall_mem_cons.mpr ⟨mt_2 _ (List.mem_of_getElem? (i := 40) rfl), List.forall_mem_cons.mpr ⟨mt_2 _ (List.mem_of_getElem? (i := 42) rfl), fun _ h => absurd h List.not_mem_nil⟩⟩⟩
theorem ul_8 : wsX80 = [.laysFinal "LuckLinks$Tallies" "LuckLinks$Tallies" "world" "LLuckLinks$World;", .lays "LuckLinks$Tallies" "LuckLinks$Tallies" "pressWeeks" "I", .lays "LuckLinks$Tallies" "LuckLinks$Tallies" "pressYes" "I", .lays "LuckLinks$Tallies" "LuckLinks$Tallies" "otherOne" "I", .lays "LuckLinks$Tallies" "LuckLinks$Tallies" "looked" "I", .lays "LuckLinks$Tallies" "LuckLinks$Tallies" "otherRows" "J", .lays "LuckLinks$Tallies" "LuckLinks$Tallies" "squares" "J", .lays "LuckLinks$Tallies" "LuckLinks$Tallies" "couples" "J"] := rfl
theorem uw_8 : ∀ w ∈ wsX80, w ∈ lw_tbl := by
  rw [ul_8]
  exact List.forall_mem_cons.mpr ⟨mt_2 _ (List.mem_of_getElem? (i := 154) rfl), List.forall_mem_cons.mpr ⟨mt_2 _ (List.mem_of_getElem? (i := 156) rfl), List.forall_mem_cons.mpr ⟨mt_2 _ (List.mem_of_getElem? (i := 158) rfl), List.forall_mem_cons.mpr ⟨mt_2 _ (List.mem_of_getElem? (i := 160) rfl), List.forall_mem_cons.mpr ⟨mt_2 _ (List.mem_of_getElem? (i := 162) rfl), List.forall_mem_cons.mpr ⟨mt_2 _ (List.mem_of_getElem? (i := 164) rfl), List.forall_mem_cons.mpr ⟨mt_2 _ (List.mem_of_getElem? (i := 166) rfl), List.forall_mem_cons.mpr ⟨mt_2 _ (List.mem_of_getElem? (i := 168) rfl), fun _ h => absurd h List.not_mem_nil⟩⟩⟩⟩⟩⟩⟩⟩
theorem ul_9 : wsX90 = [.laysFinal "LuckLinks$WeekDrawing" "LuckLinks$WeekDrawing" "world" "LLuckLinks$World;", .laysFinal "LuckLinks$WeekDrawing" "LuckLinks$WeekDrawing" "order" "LLuckLinks$Ranking;", .laysFinal "LuckLinks$WeekDrawing" "LuckLinks$WeekDrawing" "sums" "LLuckLinks$Ranking;", .laysFinal "LuckLinks$WeekDrawing" "LuckLinks$WeekDrawing" "asked" "[I"] := rfl
theorem uw_9 : ∀ w ∈ wsX90, w ∈ lw_tbl := by
  rw [ul_9]
  exact List.forall_mem_cons.mpr ⟨mt_2 _ (List.mem_of_getElem? (i := 18) rfl), List.forall_mem_cons.mpr ⟨mt_2 _ (List.mem_of_getElem? (i := 20) rfl), List.forall_mem_cons.mpr ⟨mt_2 _ (List.mem_of_getElem? (i := 22) rfl), List.forall_mem_cons.mpr ⟨mt_2 _ (List.mem_of_getElem? (i := 24) rfl), fun _ h => absurd h List.not_mem_nil⟩⟩⟩⟩
theorem ul_10 : wsX100 = [.lays "LuckLinks$World" "LuckLinks$World" "players" "I", .laysFinal "LuckLinks$World" "LuckLinks$World" "gifts" "[I", .lays "LuckLinks$World" "LuckLinks$World" "courses" "I", .laysFinal "LuckLinks$World" "LuckLinks$World" "courseStrokes" "[I", .laysFinal "LuckLinks$World" "LuckLinks$World" "weekCourse" "[I", .lays "LuckLinks$World" "LuckLinks$World" "rounds" "I", .laysFinal "LuckLinks$World" "LuckLinks$World" "hours" "[I", .laysFinal "LuckLinks$World" "LuckLinks$World" "values" "[I", .laysFinal "LuckLinks$World" "LuckLinks$World" "dayRounds" "[I", .laysFinal "LuckLinks$World" "LuckLinks$World" "dayValues" "[I", .laysFinal "LuckLinks$World" "LuckLinks$World" "bets" "[I", .lays "LuckLinks$World" "LuckLinks$World" "z" "J"] := rfl
theorem uw_10 : ∀ w ∈ wsX100, w ∈ lw_tbl := by
  rw [ul_10]
  exact List.forall_mem_cons.mpr ⟨mt_1 _ (List.mem_of_getElem? (i := 63) rfl), List.forall_mem_cons.mpr ⟨mt_1 _ (List.mem_of_getElem? (i := 65) rfl), List.forall_mem_cons.mpr ⟨mt_1 _ (List.mem_of_getElem? (i := 67) rfl), List.forall_mem_cons.mpr ⟨mt_1 _ (List.mem_of_getElem? (i := 69) rfl), List.forall_mem_cons.mpr ⟨mt_1 _ (List.mem_of_getElem? (i := 71) rfl), List.forall_mem_cons.mpr ⟨mt_1 _ (List.mem_of_getElem? (i := 73) rfl), List.forall_mem_cons.mpr ⟨mt_1 _ (List.mem_of_getElem? (i := 75) rfl), List.forall_mem_cons.mpr ⟨mt_1 _ (List.mem_of_getElem? (i := 77) rfl), List.forall_mem_cons.mpr ⟨mt_1 _ (List.mem_of_getElem? (i := 79) rfl), List.forall_mem_cons.mpr ⟨mt_1 _ (List.mem_of_getElem? (i := 81) rfl), List.forall_mem_cons.mpr ⟨mt_1 _ (List.mem_of_getElem? (i := 83) rfl), List.forall_mem_cons.mpr ⟨mt_1 _ (List.mem_of_getElem? (i := 85) rfl), fun _ h => absurd h List.not_mem_nil⟩⟩⟩⟩⟩⟩⟩⟩⟩⟩⟩⟩
theorem ul_11 : wsX110 = [.laysFinal "LuckLinks" "LuckLinks" "world" "LLuckLinks$World;", .laysFinal "LuckLinks" "LuckLinks" "images" "[LLuckLinks$World;", .lays "LuckLinks" "LuckLinks" "imageCount" "I", .laysFinal "LuckLinks" "LuckLinks" "tape" "[B", .lays "LuckLinks" "LuckLinks" "tapeLength" "I", .laysFinal "LuckLinks" "LuckLinks" "reader" "LLuckLinks$LawReader;", .lays "LuckLinks" "LuckLinks" "law" "LLuckLinks$Law;", .lays "LuckLinks" "LuckLinks" "spare" "LLuckLinks$Law;", .lays "LuckLinks" "LuckLinks" "faultPlace" "I", .laysFinal "LuckLinks" "LuckLinks" "refused" "[I", .laysFinal "LuckLinks" "LuckLinks" "ratio" "LLuckLinks$Ratio;", .laysFinal "LuckLinks" "LuckLinks" "drawing" "LLuckLinks$WeekDrawing;", .laysFinal "LuckLinks" "LuckLinks" "standings" "LLuckLinks$Standings;", .laysFinal "LuckLinks" "LuckLinks" "form" "LLuckLinks$Form;", .laysFinal "LuckLinks" "LuckLinks" "halves" "LLuckLinks$Halves;", .laysFinal "LuckLinks" "LuckLinks" "chances" "LLuckLinks$Chances;", .laysFinal "LuckLinks" "LuckLinks" "tallies" "LLuckLinks$Tallies;"] := rfl
theorem uw_11 : ∀ w ∈ wsX110, w ∈ lw_tbl := by
  rw [ul_11]
  exact List.forall_mem_cons.mpr ⟨mt_2 _ (List.mem_of_getElem? (i := 188) rfl), List.forall_mem_cons.mpr ⟨mt_2 _ (List.mem_of_getElem? (i := 190) rfl), List.forall_mem_cons.mpr ⟨mt_2 _ (List.mem_of_getElem? (i := 192) rfl), List.forall_mem_cons.mpr ⟨mt_2 _ (List.mem_of_getElem? (i := 194) rfl), List.forall_mem_cons.mpr ⟨mt_2 _ (List.mem_of_getElem? (i := 196) rfl), List.forall_mem_cons.mpr ⟨mt_2 _ (List.mem_of_getElem? (i := 198) rfl), List.forall_mem_cons.mpr ⟨mt_2 _ (List.mem_of_getElem? (i := 200) rfl), List.forall_mem_cons.mpr ⟨mt_2 _ (List.mem_of_getElem? (i := 202) rfl), List.forall_mem_cons.mpr ⟨mt_2 _ (List.mem_of_getElem? (i := 204) rfl), List.forall_mem_cons.mpr ⟨mt_2 _ (List.mem_of_getElem? (i := 206) rfl), List.forall_mem_cons.mpr ⟨mt_2 _ (List.mem_of_getElem? (i := 208) rfl), List.forall_mem_cons.mpr ⟨mt_2 _ (List.mem_of_getElem? (i := 210) rfl), List.forall_mem_cons.mpr ⟨mt_2 _ (List.mem_of_getElem? (i := 212) rfl), List.forall_mem_cons.mpr ⟨mt_2 _ (List.mem_of_getElem? (i := 214) rfl), List.forall_mem_cons.mpr ⟨mt_2 _ (List.mem_of_getElem? (i := 216) rfl), List.forall_mem_cons.mpr ⟨mt_2 _ (List.mem_of_getElem? (i := 218) rfl), List.forall_mem_cons.mpr ⟨mt_2 _ (List.mem_of_getElem? (i := 220) rfl), fun _ h => absurd h List.not_mem_nil⟩⟩⟩⟩⟩⟩⟩⟩⟩⟩⟩⟩⟩⟩⟩⟩⟩
theorem ul_12 : wsX120 = [.laysFinal "LuckLinksModel" "LuckLinksModel" "players" "[I", .laysFinal "LuckLinksModel" "LuckLinksModel" "courses" "[I", .laysFinal "LuckLinksModel" "LuckLinksModel" "rounds" "[I", .laysFinal "LuckLinksModel" "LuckLinksModel" "zs" "[J", .laysFinal "LuckLinksModel" "LuckLinksModel" "gifts" "[I", .laysFinal "LuckLinksModel" "LuckLinksModel" "courseStrokes" "[I", .laysFinal "LuckLinksModel" "LuckLinksModel" "weekCourse" "[I", .laysFinal "LuckLinksModel" "LuckLinksModel" "has" "[Z", .laysFinal "LuckLinksModel" "LuckLinksModel" "hasBet" "[Z", .laysFinal "LuckLinksModel" "LuckLinksModel" "hours" "[I", .laysFinal "LuckLinksModel" "LuckLinksModel" "strokes" "[I", .laysFinal "LuckLinksModel" "LuckLinksModel" "bets" "[I", .lays "LuckLinksModel" "LuckLinksModel" "images" "I", .laysFinal "LuckLinksModel" "LuckLinksModel" "refused" "[I", .laysFinal "LuckLinksModel" "LuckLinksModel" "rulesMany" "[I", .laysFinal "LuckLinksModel" "LuckLinksModel" "hourMany" "[I", .laysFinal "LuckLinksModel" "LuckLinksModel" "pressMany" "[I", .laysFinal "LuckLinksModel" "LuckLinksModel" "drifts" "[I", .laysFinal "LuckLinksModel" "LuckLinksModel" "lucks" "[I", .laysFinal "LuckLinksModel" "LuckLinksModel" "cuts" "[I", .laysFinal "LuckLinksModel" "LuckLinksModel" "prizes" "[I", .laysFinal "LuckLinksModel" "LuckLinksModel" "points" "[I", .laysFinal "LuckLinksModel" "LuckLinksModel" "weights" "[I", .laysFinal "LuckLinksModel" "LuckLinksModel" "hasWeight" "[Z", .laysFinal "LuckLinksModel" "LuckLinksModel" "hourPart" "[I", .laysFinal "LuckLinksModel" "LuckLinksModel" "hourMore" "[I", .laysFinal "LuckLinksModel" "LuckLinksModel" "hourFrom" "[I", .laysFinal "LuckLinksModel" "LuckLinksModel" "pressPart" "[I", .laysFinal "LuckLinksModel" "LuckLinksModel" "pressMore" "[I", .laysFinal "LuckLinksModel" "LuckLinksModel" "pressFrom" "[I", .laysFinal "LuckLinksModel" "LuckLinksModel" "pressTo" "[I", .lays "LuckLinksModel" "LuckLinksModel" "written" "I", .laysFinal "LuckLinksModel" "LuckLinksModel" "stepKind" "[I", .laysFinal "LuckLinksModel" "LuckLinksModel" "stepWord" "[I", .laysFinal "LuckLinksModel" "LuckLinksModel" "stepSign" "[I", .laysFinal "LuckLinksModel" "LuckLinksModel" "stepNumber" "[I", .laysFinal "LuckLinksModel" "LuckLinksModel" "tape" "[B", .lays "LuckLinksModel" "LuckLinksModel" "taped" "I", .lays "LuckLinksModel" "LuckLinksModel" "faultAt" "I", .lays "LuckLinksModel" "LuckLinksModel" "limit" "I", .lays "LuckLinksModel" "LuckLinksModel" "point" "I", .lays "LuckLinksModel" "LuckLinksModel" "from" "I", .lays "LuckLinksModel" "LuckLinksModel" "token" "I", .lays "LuckLinksModel" "LuckLinksModel" "value" "I", .lays "LuckLinksModel" "LuckLinksModel" "text" "J", .lays "LuckLinksModel" "LuckLinksModel" "isWrong" "Z", .laysFinal "LuckLinksModel" "LuckLinksModel" "opened" "[I", .laysFinal "LuckLinksModel" "LuckLinksModel" "joined" "[I", .lays "LuckLinksModel" "LuckLinksModel" "opens" "I", .laysFinal "LuckLinksModel" "LuckLinksModel" "asks" "[I", .laysFinal "LuckLinksModel" "LuckLinksModel" "pile" "[Z", .laysFinal "LuckLinksModel" "LuckLinksModel" "in" "[I", .laysFinal "LuckLinksModel" "LuckLinksModel" "sums" "[I", .lays "LuckLinksModel" "LuckLinksModel" "inMany" "I", .lays "LuckLinksModel" "LuckLinksModel" "dayMany" "I", .lays "LuckLinksModel" "LuckLinksModel" "daySum" "I", .lays "LuckLinksModel" "LuckLinksModel" "lead" "I", .lays "LuckLinksModel" "LuckLinksModel" "nextLead" "I", .lays "LuckLinksModel" "LuckLinksModel" "leaders" "I", .lays "LuckLinksModel" "LuckLinksModel" "skillUp" "J", .lays "LuckLinksModel" "LuckLinksModel" "skillWeight" "J", .laysFinal "LuckLinksModel" "LuckLinksModel" "ways" "[J", .laysFinal "LuckLinksModel" "LuckLinksModel" "waysNext" "[J", .laysFinal "LuckLinksModel" "LuckLinksModel" "lot" "[J", .laysFinal "LuckLinksModel" "LuckLinksModel" "wholes" "[I", .laysFinal "LuckLinksModel" "LuckLinksModel" "apart" "[J", .laysFinal "LuckLinksModel" "LuckLinksModel" "apartNext" "[J", .laysFinal "LuckLinksModel" "LuckLinksModel" "once" "[J", .laysFinal "LuckLinksModel" "LuckLinksModel" "offs" "[J", .laysFinal "LuckLinksModel" "LuckLinksModel" "many" "[I", .laysFinal "LuckLinksModel" "LuckLinksModel" "amounts" "[I", .lays "LuckLinksModel" "LuckLinksModel" "worthUp" "J", .lays "LuckLinksModel" "LuckLinksModel" "worthBelow" "J", .lays "LuckLinksModel" "LuckLinksModel" "pressedMany" "I", .lays "LuckLinksModel" "LuckLinksModel" "pressedAll" "I"] := rfl
theorem uw_12 : ∀ w ∈ wsX120, w ∈ lw_tbl := by
  rw [ul_12]
  exact List.forall_mem_cons.mpr ⟨mt_6 _ (List.mem_of_getElem? (i := 194) rfl), List.forall_mem_cons.mpr ⟨mt_6 _ (List.mem_of_getElem? (i := 196) rfl), List.forall_mem_cons.mpr ⟨mt_6 _ (List.mem_of_getElem? (i := 198) rfl), List.forall_mem_cons.mpr ⟨mt_6 _ (List.mem_of_getElem? (i := 200) rfl), List.forall_mem_cons.mpr ⟨mt_6 _ (List.mem_of_getElem? (i := 202) rfl), List.forall_mem_cons.mpr ⟨mt_6 _ (List.mem_of_getElem? (i := 204) rfl), List.forall_mem_cons.mpr ⟨mt_6 _ (List.mem_of_getElem? (i := 206) rfl), List.forall_mem_cons.mpr ⟨mt_6 _ (List.mem_of_getElem? (i := 208) rfl), List.forall_mem_cons.mpr ⟨mt_6 _ (List.mem_of_getElem? (i := 210) rfl), List.forall_mem_cons.mpr ⟨mt_6 _ (List.mem_of_getElem? (i := 212) rfl), List.forall_mem_cons.mpr ⟨mt_6 _ (List.mem_of_getElem? (i := 214) rfl), List.forall_mem_cons.mpr ⟨mt_6 _ (List.mem_of_getElem? (i := 216) rfl), List.forall_mem_cons.mpr ⟨mt_6 _ (List.mem_of_getElem? (i := 218) rfl), List.forall_mem_cons.mpr ⟨mt_6 _ (List.mem_of_getElem? (i := 220) rfl), List.forall_mem_cons.mpr ⟨mt_6 _ (List.mem_of_getElem? (i := 222) rfl), List.forall_mem_cons.mpr ⟨mt_6 _ (List.mem_of_getElem? (i := 224) rfl), List.forall_mem_cons.mpr ⟨mt_6 _ (List.mem_of_getElem? (i := 226) rfl), List.forall_mem_cons.mpr ⟨mt_6 _ (List.mem_of_getElem? (i := 228) rfl), List.forall_mem_cons.mpr ⟨mt_6 _ (List.mem_of_getElem? (i := 230) rfl), List.forall_mem_cons.mpr ⟨mt_6 _ (List.mem_of_getElem? (i := 232) rfl), List.forall_mem_cons.mpr ⟨mt_6 _ (List.mem_of_getElem? (i := 234) rfl), List.forall_mem_cons.mpr ⟨mt_6 _ (List.mem_of_getElem? (i := 236) rfl), List.forall_mem_cons.mpr ⟨mt_6 _ (List.mem_of_getElem? (i := 238) rfl), List.forall_mem_cons.mpr ⟨mt_7 _ (List.mem_of_getElem? (i := 0) rfl), List.forall_mem_cons.mpr ⟨mt_7 _ (List.mem_of_getElem? (i := 2) rfl), List.forall_mem_cons.mpr ⟨mt_7 _ (List.mem_of_getElem? (i := 4) rfl), List.forall_mem_cons.mpr ⟨mt_7 _ (List.mem_of_getElem? (i := 6) rfl), List.forall_mem_cons.mpr ⟨mt_7 _ (List.mem_of_getElem? (i := 8) rfl), List.forall_mem_cons.mpr ⟨mt_7 _ (List.mem_of_getElem? (i := 10) rfl), List.forall_mem_cons.mpr ⟨mt_7 _ (List.mem_of_getElem? (i := 12) rfl), List.forall_mem_cons.mpr ⟨mt_7 _ (List.mem_of_getElem? (i := 14) rfl), List.forall_mem_cons.mpr ⟨mt_7 _ (List.mem_of_getElem? (i := 16) rfl), List.forall_mem_cons.mpr ⟨mt_7 _ (List.mem_of_getElem? (i := 18) rfl), List.forall_mem_cons.mpr ⟨mt_7 _ (List.mem_of_getElem? (i := 20) rfl), List.forall_mem_cons.mpr ⟨mt_7 _ (List.mem_of_getElem? (i := 22) rfl), List.forall_mem_cons.mpr ⟨mt_7 _ (List.mem_of_getElem? (i := 24) rfl), List.forall_mem_cons.mpr ⟨mt_7 _ (List.mem_of_getElem? (i := 26) rfl), List.forall_mem_cons.mpr ⟨mt_7 _ (List.mem_of_getElem? (i := 28) rfl), List.forall_mem_cons.mpr ⟨mt_7 _ (List.mem_of_getElem? (i := 30) rfl), List.forall_mem_cons.mpr ⟨mt_7 _ (List.mem_of_getElem? (i := 32) rfl), List.forall_mem_cons.mpr ⟨mt_7 _ (List.mem_of_getElem? (i := 34) rfl), List.forall_mem_cons.mpr ⟨mt_7 _ (List.mem_of_getElem? (i := 36) rfl), List.forall_mem_cons.mpr ⟨mt_7 _ (List.mem_of_getElem? (i := 38) rfl), List.forall_mem_cons.mpr ⟨mt_7 _ (List.mem_of_getElem? (i := 40) rfl), List.forall_mem_cons.mpr ⟨mt_7 _ (List.mem_of_getElem? (i := 42) rfl), List.forall_mem_cons.mpr ⟨mt_7 _ (List.mem_of_getElem? (i := 44) rfl), List.forall_mem_cons.mpr ⟨mt_7 _ (List.mem_of_getElem? (i := 46) rfl), List.forall_mem_cons.mpr ⟨mt_7 _ (List.mem_of_getElem? (i := 48) rfl), List.forall_mem_cons.mpr ⟨mt_7 _ (List.mem_of_getElem? (i := 50) rfl), List.forall_mem_cons.mpr ⟨mt_7 _ (List.mem_of_getElem? (i := 52) rfl), List.forall_mem_cons.mpr ⟨mt_7 _ (List.mem_of_getElem? (i := 54) rfl), List.forall_mem_cons.mpr ⟨mt_7 _ (List.mem_of_getElem? (i := 56) rfl), List.forall_mem_cons.mpr ⟨mt_7 _ (List.mem_of_getElem? (i := 58) rfl), List.forall_mem_cons.mpr ⟨mt_7 _ (List.mem_of_getElem? (i := 60) rfl), List.forall_mem_cons.mpr ⟨mt_7 _ (List.mem_of_getElem? (i := 62) rfl), List.forall_mem_cons.mpr ⟨mt_7 _ (List.mem_of_getElem? (i := 64) rfl), List.forall_mem_cons.mpr ⟨mt_7 _ (List.mem_of_getElem? (i := 66) rfl), List.forall_mem_cons.mpr ⟨mt_7 _ (List.mem_of_getElem? (i := 68) rfl), List.forall_mem_cons.mpr ⟨mt_7 _ (List.mem_of_getElem? (i := 70) rfl), List.forall_mem_cons.mpr ⟨mt_7 _ (List.mem_of_getElem? (i := 72) rfl), List.forall_mem_cons.mpr ⟨mt_7 _ (List.mem_of_getElem? (i := 74) rfl), List.forall_mem_cons.mpr ⟨mt_7 _ (List.mem_of_getElem? (i := 76) rfl), List.forall_mem_cons.mpr ⟨mt_7 _ (List.mem_of_getElem? (i := 78) rfl), List.forall_mem_cons.mpr ⟨mt_7 _ (List.mem_of_getElem? (i := 80) rfl), List.forall_mem_cons.mpr ⟨mt_7 _ (List.mem_of_getElem? (i := 82) rfl), List.forall_mem_cons.mpr ⟨mt_7 _ (List.mem_of_getElem? (i := 84) rfl), List.forall_mem_cons.mpr ⟨mt_7 _ (List.mem_of_getElem? (i := 86) rfl), List.forall_mem_cons.mpr ⟨mt_7 _ (List.mem_of_getElem? (i := 88) rfl), List.forall_mem_cons.mpr ⟨mt_7 _ (List.mem_of_getElem? (i := 90) rfl), List.forall_mem_cons.mpr ⟨mt_7 _ (List.mem_of_getElem? (i := 92) rfl), List.forall_mem_cons.mpr ⟨mt_7 _ (List.mem_of_getElem? (i := 94) rfl), List.forall_mem_cons.mpr ⟨mt_7 _ (List.mem_of_getElem? (i := 96) rfl), List.forall_mem_cons.mpr ⟨mt_7 _ (List.mem_of_getElem? (i := 98) rfl), List.forall_mem_cons.mpr ⟨mt_7 _ (List.mem_of_getElem? (i := 100) rfl), List.forall_mem_cons.mpr ⟨mt_7 _ (List.mem_of_getElem? (i := 102) rfl), fun _ h => absurd h List.not_mem_nil⟩⟩⟩⟩⟩⟩⟩⟩⟩⟩⟩⟩⟩⟩⟩⟩⟩⟩⟩⟩⟩⟩⟩⟩⟩⟩⟩⟩⟩⟩⟩⟩⟩⟩⟩⟩⟩⟩⟩⟩⟩⟩⟩⟩⟩⟩⟩⟩⟩⟩⟩⟩⟩⟩⟩⟩⟩⟩⟩⟩⟩⟩⟩⟩⟩⟩⟩⟩⟩⟩⟩⟩⟩⟩⟩
theorem wsL_law_in : ∀ w ∈ wsL_law, w ∈ lw_tbl := by
  unfold wsL_law
  exact List.forall_mem_append.mpr ⟨List.forall_mem_append.mpr ⟨List.forall_mem_append.mpr ⟨List.forall_mem_append.mpr ⟨List.forall_mem_append.mpr ⟨List.forall_mem_append.mpr ⟨List.forall_mem_append.mpr ⟨List.forall_mem_append.mpr ⟨List.forall_mem_append.mpr ⟨List.forall_mem_append.mpr ⟨List.forall_mem_append.mpr ⟨List.forall_mem_append.mpr ⟨List.forall_mem_append.mpr ⟨List.forall_mem_append.mpr ⟨List.forall_mem_append.mpr ⟨ck_1, List.forall_mem_append.mpr ⟨ck_2, List.forall_mem_append.mpr ⟨ck_3, List.forall_mem_append.mpr ⟨ck_4, List.forall_mem_append.mpr ⟨ck_5, List.forall_mem_append.mpr ⟨ck_6, List.forall_mem_append.mpr ⟨ck_7, List.forall_mem_append.mpr ⟨ck_8, List.forall_mem_append.mpr ⟨ck_9, List.forall_mem_append.mpr ⟨ck_10, List.forall_mem_append.mpr ⟨ck_11, List.forall_mem_append.mpr ⟨ck_12, List.forall_mem_append.mpr ⟨ck_13, List.forall_mem_append.mpr ⟨ck_14, List.forall_mem_append.mpr ⟨ck_15, List.forall_mem_append.mpr ⟨ck_16, List.forall_mem_append.mpr ⟨ck_17, List.forall_mem_append.mpr ⟨ck_18, List.forall_mem_append.mpr ⟨ck_19, List.forall_mem_append.mpr ⟨ck_20, List.forall_mem_append.mpr ⟨ck_21, List.forall_mem_append.mpr ⟨ck_22, List.forall_mem_append.mpr ⟨ck_23, List.forall_mem_append.mpr ⟨ck_24, List.forall_mem_append.mpr ⟨ck_25, List.forall_mem_append.mpr ⟨ck_26, List.forall_mem_append.mpr ⟨ck_27, List.forall_mem_append.mpr ⟨ck_28, List.forall_mem_append.mpr ⟨ck_29, List.forall_mem_append.mpr ⟨ck_30, List.forall_mem_append.mpr ⟨ck_31, List.forall_mem_append.mpr ⟨ck_32, List.forall_mem_append.mpr ⟨ck_33, List.forall_mem_append.mpr ⟨ck_34, List.forall_mem_append.mpr ⟨ck_35, List.forall_mem_append.mpr ⟨ck_36, List.forall_mem_append.mpr ⟨ck_37, List.forall_mem_append.mpr ⟨ck_38, List.forall_mem_append.mpr ⟨ck_39, List.forall_mem_append.mpr ⟨ck_40, List.forall_mem_append.mpr ⟨ck_41, List.forall_mem_append.mpr ⟨ck_42, List.forall_mem_append.mpr ⟨ck_43, List.forall_mem_append.mpr ⟨ck_44, List.forall_mem_append.mpr ⟨ck_45, List.forall_mem_append.mpr ⟨ck_46, List.forall_mem_append.mpr ⟨ck_47, List.forall_mem_append.mpr ⟨ck_48, List.forall_mem_append.mpr ⟨ck_49, List.forall_mem_append.mpr ⟨ck_50, List.forall_mem_append.mpr ⟨ck_51, List.forall_mem_append.mpr ⟨ck_52, List.forall_mem_append.mpr ⟨ck_53, List.forall_mem_append.mpr ⟨ck_54, List.forall_mem_append.mpr ⟨ck_55, List.forall_mem_append.mpr ⟨ck_56, List.forall_mem_append.mpr ⟨ck_57, List.forall_mem_append.mpr ⟨ck_58, List.forall_mem_append.mpr ⟨ck_59, List.forall_mem_append.mpr ⟨ck_60, List.forall_mem_append.mpr ⟨ck_61, List.forall_mem_append.mpr ⟨ck_62, List.forall_mem_append.mpr ⟨ck_63, List.forall_mem_append.mpr ⟨ck_64, List.forall_mem_append.mpr ⟨ck_65, List.forall_mem_append.mpr ⟨ck_66, ck_67⟩⟩⟩⟩⟩⟩⟩⟩⟩⟩⟩⟩⟩⟩⟩⟩⟩⟩⟩⟩⟩⟩⟩⟩⟩⟩⟩⟩⟩⟩⟩⟩⟩⟩⟩⟩⟩⟩⟩⟩⟩⟩⟩⟩⟩⟩⟩⟩⟩⟩⟩⟩⟩⟩⟩⟩⟩⟩⟩⟩⟩⟩⟩⟩⟩⟩, uw_11⟩, uw_12⟩, uw_10⟩, uw_4⟩, uw_3⟩, uw_6⟩, uw_9⟩, uw_7⟩, uw_1⟩, uw_2⟩, uw_0⟩, uw_8⟩, uw_5⟩, fun _ h => absurd h List.not_mem_nil⟩
theorem inlX0 : ∀ w ∈ wsX00, w ∈ wsL_law := fun _ h => List.mem_append_left _ (List.mem_append_left _ (List.mem_append_left _ (List.mem_append_right _ h)))
theorem inlX1 : ∀ w ∈ wsX10, w ∈ wsL_law := fun _ h => List.mem_append_left _ (List.mem_append_left _ (List.mem_append_left _ (List.mem_append_left _ (List.mem_append_left _ (List.mem_append_right _ h)))))
theorem inlX2 : ∀ w ∈ wsX20, w ∈ wsL_law := fun _ h => List.mem_append_left _ (List.mem_append_left _ (List.mem_append_left _ (List.mem_append_left _ (List.mem_append_right _ h))))
theorem inlX3 : ∀ w ∈ wsX30, w ∈ wsL_law := fun _ h => List.mem_append_left _ (List.mem_append_left _ (List.mem_append_left _ (List.mem_append_left _ (List.mem_append_left _ (List.mem_append_left _ (List.mem_append_left _ (List.mem_append_left _ (List.mem_append_left _ (List.mem_append_right _ h)))))))))
theorem inlX4 : ∀ w ∈ wsX40, w ∈ wsL_law := fun _ h => List.mem_append_left _ (List.mem_append_left _ (List.mem_append_left _ (List.mem_append_left _ (List.mem_append_left _ (List.mem_append_left _ (List.mem_append_left _ (List.mem_append_left _ (List.mem_append_left _ (List.mem_append_left _ (List.mem_append_right _ h))))))))))
theorem inlX5 : ∀ w ∈ wsX50, w ∈ wsL_law := fun _ h => List.mem_append_left _ (List.mem_append_right _ h)
theorem inlX6 : ∀ w ∈ wsX60, w ∈ wsL_law := fun _ h => List.mem_append_left _ (List.mem_append_left _ (List.mem_append_left _ (List.mem_append_left _ (List.mem_append_left _ (List.mem_append_left _ (List.mem_append_left _ (List.mem_append_left _ (List.mem_append_right _ h))))))))
theorem inlX7 : ∀ w ∈ wsX70, w ∈ wsL_law := fun _ h => List.mem_append_left _ (List.mem_append_left _ (List.mem_append_left _ (List.mem_append_left _ (List.mem_append_left _ (List.mem_append_left _ (List.mem_append_right _ h))))))
theorem inlX8 : ∀ w ∈ wsX80, w ∈ wsL_law := fun _ h => List.mem_append_left _ (List.mem_append_left _ (List.mem_append_right _ h))
theorem inlX9 : ∀ w ∈ wsX90, w ∈ wsL_law := fun _ h => List.mem_append_left _ (List.mem_append_left _ (List.mem_append_left _ (List.mem_append_left _ (List.mem_append_left _ (List.mem_append_left _ (List.mem_append_left _ (List.mem_append_right _ h)))))))
theorem inlX10 : ∀ w ∈ wsX100, w ∈ wsL_law := fun _ h => List.mem_append_left _ (List.mem_append_left _ (List.mem_append_left _ (List.mem_append_left _ (List.mem_append_left _ (List.mem_append_left _ (List.mem_append_left _ (List.mem_append_left _ (List.mem_append_left _ (List.mem_append_left _ (List.mem_append_left _ (List.mem_append_right _ h)))))))))))
theorem inlX11 : ∀ w ∈ wsX110, w ∈ wsL_law := fun _ h => List.mem_append_left _ (List.mem_append_left _ (List.mem_append_left _ (List.mem_append_left _ (List.mem_append_left _ (List.mem_append_left _ (List.mem_append_left _ (List.mem_append_left _ (List.mem_append_left _ (List.mem_append_left _ (List.mem_append_left _ (List.mem_append_left _ (List.mem_append_left _ (List.mem_append_right _ h)))))))))))))
theorem inlX12 : ∀ w ∈ wsX120, w ∈ wsL_law := fun _ h => List.mem_append_left _ (List.mem_append_left _ (List.mem_append_left _ (List.mem_append_left _ (List.mem_append_left _ (List.mem_append_left _ (List.mem_append_left _ (List.mem_append_left _ (List.mem_append_left _ (List.mem_append_left _ (List.mem_append_left _ (List.mem_append_left _ (List.mem_append_right _ h))))))))))))

def wsR1 : List Cond := wsL_law_r1 ++ (wsL_law_r2 ++ (wsL_law_r3 ++ (wsL_law_r4 ++ (wsL_law_r5 ++ (wsL_law_r6 ++ (wsL_law_r7 ++ (wsL_law_r8 ++ (wsL_law_r9 ++ (wsL_law_r10 ++ (wsL_law_r11 ++ (wsL_law_r12 ++ (wsL_law_r13 ++ (wsL_law_r14 ++ (wsL_law_r15 ++ (wsL_law_r16 ++ (wsL_law_r17 ++ (wsL_law_r18 ++ (wsL_law_r19 ++ (wsL_law_r20 ++ (wsL_law_r21 ++ (wsL_law_r22 ++ (wsL_law_r23 ++ (wsL_law_r24 ++ (wsL_law_r25 ++ (wsL_law_r26 ++ (wsL_law_r27 ++ (wsL_law_r28 ++ (wsL_law_r29 ++ (wsL_law_r30 ++ (wsL_law_r31 ++ (wsL_law_r32 ++ (wsL_law_r33 ++ (wsL_law_r34 ++ (wsL_law_r35 ++ (wsL_law_r36 ++ (wsL_law_r37 ++ (wsL_law_r38 ++ (wsL_law_r39 ++ (wsL_law_r40 ++ (wsL_law_r41 ++ (wsL_law_r42 ++ (wsL_law_r43 ++ (wsL_law_r44 ++ (wsL_law_r45 ++ (wsL_law_r46 ++ (wsL_law_r47 ++ (wsL_law_r48 ++ (wsL_law_r49 ++ (wsL_law_r50 ++ (wsL_law_r51 ++ (wsL_law_r52 ++ (wsL_law_r53 ++ (wsL_law_r54 ++ (wsL_law_r55 ++ (wsL_law_r56 ++ (wsL_law_r57 ++ (wsL_law_r58 ++ (wsL_law_r59 ++ (wsL_law_r60 ++ (wsL_law_r61 ++ (wsL_law_r62 ++ (wsL_law_r63 ++ (wsL_law_r64 ++ (wsL_law_r65 ++ (wsL_law_r66 ++ (wsL_law_r67))))))))))))))))))))))))))))))))))))))))))))))))))))))))))))))))))
theorem mq_1 : ∀ w ∈ wsR1, w ∈ wsL_law := fun _ h => List.mem_append_left _ (List.mem_append_left _ (List.mem_append_left _ (List.mem_append_left _ (List.mem_append_left _ (List.mem_append_left _ (List.mem_append_left _ (List.mem_append_left _ (List.mem_append_left _ (List.mem_append_left _ (List.mem_append_left _ (List.mem_append_left _ (List.mem_append_left _ (List.mem_append_left _ (h))))))))))))))
theorem mr_1 : ∀ w ∈ wsL_law_r1, w ∈ wsL_law := fun _ h => mq_1 _ (List.mem_append_left _ h)
def wsR2 : List Cond := wsL_law_r2 ++ (wsL_law_r3 ++ (wsL_law_r4 ++ (wsL_law_r5 ++ (wsL_law_r6 ++ (wsL_law_r7 ++ (wsL_law_r8 ++ (wsL_law_r9 ++ (wsL_law_r10 ++ (wsL_law_r11 ++ (wsL_law_r12 ++ (wsL_law_r13 ++ (wsL_law_r14 ++ (wsL_law_r15 ++ (wsL_law_r16 ++ (wsL_law_r17 ++ (wsL_law_r18 ++ (wsL_law_r19 ++ (wsL_law_r20 ++ (wsL_law_r21 ++ (wsL_law_r22 ++ (wsL_law_r23 ++ (wsL_law_r24 ++ (wsL_law_r25 ++ (wsL_law_r26 ++ (wsL_law_r27 ++ (wsL_law_r28 ++ (wsL_law_r29 ++ (wsL_law_r30 ++ (wsL_law_r31 ++ (wsL_law_r32 ++ (wsL_law_r33 ++ (wsL_law_r34 ++ (wsL_law_r35 ++ (wsL_law_r36 ++ (wsL_law_r37 ++ (wsL_law_r38 ++ (wsL_law_r39 ++ (wsL_law_r40 ++ (wsL_law_r41 ++ (wsL_law_r42 ++ (wsL_law_r43 ++ (wsL_law_r44 ++ (wsL_law_r45 ++ (wsL_law_r46 ++ (wsL_law_r47 ++ (wsL_law_r48 ++ (wsL_law_r49 ++ (wsL_law_r50 ++ (wsL_law_r51 ++ (wsL_law_r52 ++ (wsL_law_r53 ++ (wsL_law_r54 ++ (wsL_law_r55 ++ (wsL_law_r56 ++ (wsL_law_r57 ++ (wsL_law_r58 ++ (wsL_law_r59 ++ (wsL_law_r60 ++ (wsL_law_r61 ++ (wsL_law_r62 ++ (wsL_law_r63 ++ (wsL_law_r64 ++ (wsL_law_r65 ++ (wsL_law_r66 ++ (wsL_law_r67)))))))))))))))))))))))))))))))))))))))))))))))))))))))))))))))))
theorem mq_2 : ∀ w ∈ wsR2, w ∈ wsL_law := fun _ h => mq_1 _ (List.mem_append_right _ h)
theorem mr_2 : ∀ w ∈ wsL_law_r2, w ∈ wsL_law := fun _ h => mq_2 _ (List.mem_append_left _ h)
def wsR3 : List Cond := wsL_law_r3 ++ (wsL_law_r4 ++ (wsL_law_r5 ++ (wsL_law_r6 ++ (wsL_law_r7 ++ (wsL_law_r8 ++ (wsL_law_r9 ++ (wsL_law_r10 ++ (wsL_law_r11 ++ (wsL_law_r12 ++ (wsL_law_r13 ++ (wsL_law_r14 ++ (wsL_law_r15 ++ (wsL_law_r16 ++ (wsL_law_r17 ++ (wsL_law_r18 ++ (wsL_law_r19 ++ (wsL_law_r20 ++ (wsL_law_r21 ++ (wsL_law_r22 ++ (wsL_law_r23 ++ (wsL_law_r24 ++ (wsL_law_r25 ++ (wsL_law_r26 ++ (wsL_law_r27 ++ (wsL_law_r28 ++ (wsL_law_r29 ++ (wsL_law_r30 ++ (wsL_law_r31 ++ (wsL_law_r32 ++ (wsL_law_r33 ++ (wsL_law_r34 ++ (wsL_law_r35 ++ (wsL_law_r36 ++ (wsL_law_r37 ++ (wsL_law_r38 ++ (wsL_law_r39 ++ (wsL_law_r40 ++ (wsL_law_r41 ++ (wsL_law_r42 ++ (wsL_law_r43 ++ (wsL_law_r44 ++ (wsL_law_r45 ++ (wsL_law_r46 ++ (wsL_law_r47 ++ (wsL_law_r48 ++ (wsL_law_r49 ++ (wsL_law_r50 ++ (wsL_law_r51 ++ (wsL_law_r52 ++ (wsL_law_r53 ++ (wsL_law_r54 ++ (wsL_law_r55 ++ (wsL_law_r56 ++ (wsL_law_r57 ++ (wsL_law_r58 ++ (wsL_law_r59 ++ (wsL_law_r60 ++ (wsL_law_r61 ++ (wsL_law_r62 ++ (wsL_law_r63 ++ (wsL_law_r64 ++ (wsL_law_r65 ++ (wsL_law_r66 ++ (wsL_law_r67))))))))))))))))))))))))))))))))))))))))))))))))))))))))))))))))
theorem mq_3 : ∀ w ∈ wsR3, w ∈ wsL_law := fun _ h => mq_2 _ (List.mem_append_right _ h)
theorem mr_3 : ∀ w ∈ wsL_law_r3, w ∈ wsL_law := fun _ h => mq_3 _ (List.mem_append_left _ h)
def wsR4 : List Cond := wsL_law_r4 ++ (wsL_law_r5 ++ (wsL_law_r6 ++ (wsL_law_r7 ++ (wsL_law_r8 ++ (wsL_law_r9 ++ (wsL_law_r10 ++ (wsL_law_r11 ++ (wsL_law_r12 ++ (wsL_law_r13 ++ (wsL_law_r14 ++ (wsL_law_r15 ++ (wsL_law_r16 ++ (wsL_law_r17 ++ (wsL_law_r18 ++ (wsL_law_r19 ++ (wsL_law_r20 ++ (wsL_law_r21 ++ (wsL_law_r22 ++ (wsL_law_r23 ++ (wsL_law_r24 ++ (wsL_law_r25 ++ (wsL_law_r26 ++ (wsL_law_r27 ++ (wsL_law_r28 ++ (wsL_law_r29 ++ (wsL_law_r30 ++ (wsL_law_r31 ++ (wsL_law_r32 ++ (wsL_law_r33 ++ (wsL_law_r34 ++ (wsL_law_r35 ++ (wsL_law_r36 ++ (wsL_law_r37 ++ (wsL_law_r38 ++ (wsL_law_r39 ++ (wsL_law_r40 ++ (wsL_law_r41 ++ (wsL_law_r42 ++ (wsL_law_r43 ++ (wsL_law_r44 ++ (wsL_law_r45 ++ (wsL_law_r46 ++ (wsL_law_r47 ++ (wsL_law_r48 ++ (wsL_law_r49 ++ (wsL_law_r50 ++ (wsL_law_r51 ++ (wsL_law_r52 ++ (wsL_law_r53 ++ (wsL_law_r54 ++ (wsL_law_r55 ++ (wsL_law_r56 ++ (wsL_law_r57 ++ (wsL_law_r58 ++ (wsL_law_r59 ++ (wsL_law_r60 ++ (wsL_law_r61 ++ (wsL_law_r62 ++ (wsL_law_r63 ++ (wsL_law_r64 ++ (wsL_law_r65 ++ (wsL_law_r66 ++ (wsL_law_r67)))))))))))))))))))))))))))))))))))))))))))))))))))))))))))))))
theorem mq_4 : ∀ w ∈ wsR4, w ∈ wsL_law := fun _ h => mq_3 _ (List.mem_append_right _ h)
theorem mr_4 : ∀ w ∈ wsL_law_r4, w ∈ wsL_law := fun _ h => mq_4 _ (List.mem_append_left _ h)
def wsR5 : List Cond := wsL_law_r5 ++ (wsL_law_r6 ++ (wsL_law_r7 ++ (wsL_law_r8 ++ (wsL_law_r9 ++ (wsL_law_r10 ++ (wsL_law_r11 ++ (wsL_law_r12 ++ (wsL_law_r13 ++ (wsL_law_r14 ++ (wsL_law_r15 ++ (wsL_law_r16 ++ (wsL_law_r17 ++ (wsL_law_r18 ++ (wsL_law_r19 ++ (wsL_law_r20 ++ (wsL_law_r21 ++ (wsL_law_r22 ++ (wsL_law_r23 ++ (wsL_law_r24 ++ (wsL_law_r25 ++ (wsL_law_r26 ++ (wsL_law_r27 ++ (wsL_law_r28 ++ (wsL_law_r29 ++ (wsL_law_r30 ++ (wsL_law_r31 ++ (wsL_law_r32 ++ (wsL_law_r33 ++ (wsL_law_r34 ++ (wsL_law_r35 ++ (wsL_law_r36 ++ (wsL_law_r37 ++ (wsL_law_r38 ++ (wsL_law_r39 ++ (wsL_law_r40 ++ (wsL_law_r41 ++ (wsL_law_r42 ++ (wsL_law_r43 ++ (wsL_law_r44 ++ (wsL_law_r45 ++ (wsL_law_r46 ++ (wsL_law_r47 ++ (wsL_law_r48 ++ (wsL_law_r49 ++ (wsL_law_r50 ++ (wsL_law_r51 ++ (wsL_law_r52 ++ (wsL_law_r53 ++ (wsL_law_r54 ++ (wsL_law_r55 ++ (wsL_law_r56 ++ (wsL_law_r57 ++ (wsL_law_r58 ++ (wsL_law_r59 ++ (wsL_law_r60 ++ (wsL_law_r61 ++ (wsL_law_r62 ++ (wsL_law_r63 ++ (wsL_law_r64 ++ (wsL_law_r65 ++ (wsL_law_r66 ++ (wsL_law_r67))))))))))))))))))))))))))))))))))))))))))))))))))))))))))))))
theorem mq_5 : ∀ w ∈ wsR5, w ∈ wsL_law := fun _ h => mq_4 _ (List.mem_append_right _ h)
theorem mr_5 : ∀ w ∈ wsL_law_r5, w ∈ wsL_law := fun _ h => mq_5 _ (List.mem_append_left _ h)
def wsR6 : List Cond := wsL_law_r6 ++ (wsL_law_r7 ++ (wsL_law_r8 ++ (wsL_law_r9 ++ (wsL_law_r10 ++ (wsL_law_r11 ++ (wsL_law_r12 ++ (wsL_law_r13 ++ (wsL_law_r14 ++ (wsL_law_r15 ++ (wsL_law_r16 ++ (wsL_law_r17 ++ (wsL_law_r18 ++ (wsL_law_r19 ++ (wsL_law_r20 ++ (wsL_law_r21 ++ (wsL_law_r22 ++ (wsL_law_r23 ++ (wsL_law_r24 ++ (wsL_law_r25 ++ (wsL_law_r26 ++ (wsL_law_r27 ++ (wsL_law_r28 ++ (wsL_law_r29 ++ (wsL_law_r30 ++ (wsL_law_r31 ++ (wsL_law_r32 ++ (wsL_law_r33 ++ (wsL_law_r34 ++ (wsL_law_r35 ++ (wsL_law_r36 ++ (wsL_law_r37 ++ (wsL_law_r38 ++ (wsL_law_r39 ++ (wsL_law_r40 ++ (wsL_law_r41 ++ (wsL_law_r42 ++ (wsL_law_r43 ++ (wsL_law_r44 ++ (wsL_law_r45 ++ (wsL_law_r46 ++ (wsL_law_r47 ++ (wsL_law_r48 ++ (wsL_law_r49 ++ (wsL_law_r50 ++ (wsL_law_r51 ++ (wsL_law_r52 ++ (wsL_law_r53 ++ (wsL_law_r54 ++ (wsL_law_r55 ++ (wsL_law_r56 ++ (wsL_law_r57 ++ (wsL_law_r58 ++ (wsL_law_r59 ++ (wsL_law_r60 ++ (wsL_law_r61 ++ (wsL_law_r62 ++ (wsL_law_r63 ++ (wsL_law_r64 ++ (wsL_law_r65 ++ (wsL_law_r66 ++ (wsL_law_r67)))))))))))))))))))))))))))))))))))))))))))))))))))))))))))))
theorem mq_6 : ∀ w ∈ wsR6, w ∈ wsL_law := fun _ h => mq_5 _ (List.mem_append_right _ h)
theorem mr_6 : ∀ w ∈ wsL_law_r6, w ∈ wsL_law := fun _ h => mq_6 _ (List.mem_append_left _ h)
def wsR7 : List Cond := wsL_law_r7 ++ (wsL_law_r8 ++ (wsL_law_r9 ++ (wsL_law_r10 ++ (wsL_law_r11 ++ (wsL_law_r12 ++ (wsL_law_r13 ++ (wsL_law_r14 ++ (wsL_law_r15 ++ (wsL_law_r16 ++ (wsL_law_r17 ++ (wsL_law_r18 ++ (wsL_law_r19 ++ (wsL_law_r20 ++ (wsL_law_r21 ++ (wsL_law_r22 ++ (wsL_law_r23 ++ (wsL_law_r24 ++ (wsL_law_r25 ++ (wsL_law_r26 ++ (wsL_law_r27 ++ (wsL_law_r28 ++ (wsL_law_r29 ++ (wsL_law_r30 ++ (wsL_law_r31 ++ (wsL_law_r32 ++ (wsL_law_r33 ++ (wsL_law_r34 ++ (wsL_law_r35 ++ (wsL_law_r36 ++ (wsL_law_r37 ++ (wsL_law_r38 ++ (wsL_law_r39 ++ (wsL_law_r40 ++ (wsL_law_r41 ++ (wsL_law_r42 ++ (wsL_law_r43 ++ (wsL_law_r44 ++ (wsL_law_r45 ++ (wsL_law_r46 ++ (wsL_law_r47 ++ (wsL_law_r48 ++ (wsL_law_r49 ++ (wsL_law_r50 ++ (wsL_law_r51 ++ (wsL_law_r52 ++ (wsL_law_r53 ++ (wsL_law_r54 ++ (wsL_law_r55 ++ (wsL_law_r56 ++ (wsL_law_r57 ++ (wsL_law_r58 ++ (wsL_law_r59 ++ (wsL_law_r60 ++ (wsL_law_r61 ++ (wsL_law_r62 ++ (wsL_law_r63 ++ (wsL_law_r64 ++ (wsL_law_r65 ++ (wsL_law_r66 ++ (wsL_law_r67))))))))))))))))))))))))))))))))))))))))))))))))))))))))))))
theorem mq_7 : ∀ w ∈ wsR7, w ∈ wsL_law := fun _ h => mq_6 _ (List.mem_append_right _ h)
theorem mr_7 : ∀ w ∈ wsL_law_r7, w ∈ wsL_law := fun _ h => mq_7 _ (List.mem_append_left _ h)
def wsR8 : List Cond := wsL_law_r8 ++ (wsL_law_r9 ++ (wsL_law_r10 ++ (wsL_law_r11 ++ (wsL_law_r12 ++ (wsL_law_r13 ++ (wsL_law_r14 ++ (wsL_law_r15 ++ (wsL_law_r16 ++ (wsL_law_r17 ++ (wsL_law_r18 ++ (wsL_law_r19 ++ (wsL_law_r20 ++ (wsL_law_r21 ++ (wsL_law_r22 ++ (wsL_law_r23 ++ (wsL_law_r24 ++ (wsL_law_r25 ++ (wsL_law_r26 ++ (wsL_law_r27 ++ (wsL_law_r28 ++ (wsL_law_r29 ++ (wsL_law_r30 ++ (wsL_law_r31 ++ (wsL_law_r32 ++ (wsL_law_r33 ++ (wsL_law_r34 ++ (wsL_law_r35 ++ (wsL_law_r36 ++ (wsL_law_r37 ++ (wsL_law_r38 ++ (wsL_law_r39 ++ (wsL_law_r40 ++ (wsL_law_r41 ++ (wsL_law_r42 ++ (wsL_law_r43 ++ (wsL_law_r44 ++ (wsL_law_r45 ++ (wsL_law_r46 ++ (wsL_law_r47 ++ (wsL_law_r48 ++ (wsL_law_r49 ++ (wsL_law_r50 ++ (wsL_law_r51 ++ (wsL_law_r52 ++ (wsL_law_r53 ++ (wsL_law_r54 ++ (wsL_law_r55 ++ (wsL_law_r56 ++ (wsL_law_r57 ++ (wsL_law_r58 ++ (wsL_law_r59 ++ (wsL_law_r60 ++ (wsL_law_r61 ++ (wsL_law_r62 ++ (wsL_law_r63 ++ (wsL_law_r64 ++ (wsL_law_r65 ++ (wsL_law_r66 ++ (wsL_law_r67)))))))))))))))))))))))))))))))))))))))))))))))))))))))))))
theorem mq_8 : ∀ w ∈ wsR8, w ∈ wsL_law := fun _ h => mq_7 _ (List.mem_append_right _ h)
theorem mr_8 : ∀ w ∈ wsL_law_r8, w ∈ wsL_law := fun _ h => mq_8 _ (List.mem_append_left _ h)
def wsR9 : List Cond := wsL_law_r9 ++ (wsL_law_r10 ++ (wsL_law_r11 ++ (wsL_law_r12 ++ (wsL_law_r13 ++ (wsL_law_r14 ++ (wsL_law_r15 ++ (wsL_law_r16 ++ (wsL_law_r17 ++ (wsL_law_r18 ++ (wsL_law_r19 ++ (wsL_law_r20 ++ (wsL_law_r21 ++ (wsL_law_r22 ++ (wsL_law_r23 ++ (wsL_law_r24 ++ (wsL_law_r25 ++ (wsL_law_r26 ++ (wsL_law_r27 ++ (wsL_law_r28 ++ (wsL_law_r29 ++ (wsL_law_r30 ++ (wsL_law_r31 ++ (wsL_law_r32 ++ (wsL_law_r33 ++ (wsL_law_r34 ++ (wsL_law_r35 ++ (wsL_law_r36 ++ (wsL_law_r37 ++ (wsL_law_r38 ++ (wsL_law_r39 ++ (wsL_law_r40 ++ (wsL_law_r41 ++ (wsL_law_r42 ++ (wsL_law_r43 ++ (wsL_law_r44 ++ (wsL_law_r45 ++ (wsL_law_r46 ++ (wsL_law_r47 ++ (wsL_law_r48 ++ (wsL_law_r49 ++ (wsL_law_r50 ++ (wsL_law_r51 ++ (wsL_law_r52 ++ (wsL_law_r53 ++ (wsL_law_r54 ++ (wsL_law_r55 ++ (wsL_law_r56 ++ (wsL_law_r57 ++ (wsL_law_r58 ++ (wsL_law_r59 ++ (wsL_law_r60 ++ (wsL_law_r61 ++ (wsL_law_r62 ++ (wsL_law_r63 ++ (wsL_law_r64 ++ (wsL_law_r65 ++ (wsL_law_r66 ++ (wsL_law_r67))))))))))))))))))))))))))))))))))))))))))))))))))))))))))
theorem mq_9 : ∀ w ∈ wsR9, w ∈ wsL_law := fun _ h => mq_8 _ (List.mem_append_right _ h)
theorem mr_9 : ∀ w ∈ wsL_law_r9, w ∈ wsL_law := fun _ h => mq_9 _ (List.mem_append_left _ h)
def wsR10 : List Cond := wsL_law_r10 ++ (wsL_law_r11 ++ (wsL_law_r12 ++ (wsL_law_r13 ++ (wsL_law_r14 ++ (wsL_law_r15 ++ (wsL_law_r16 ++ (wsL_law_r17 ++ (wsL_law_r18 ++ (wsL_law_r19 ++ (wsL_law_r20 ++ (wsL_law_r21 ++ (wsL_law_r22 ++ (wsL_law_r23 ++ (wsL_law_r24 ++ (wsL_law_r25 ++ (wsL_law_r26 ++ (wsL_law_r27 ++ (wsL_law_r28 ++ (wsL_law_r29 ++ (wsL_law_r30 ++ (wsL_law_r31 ++ (wsL_law_r32 ++ (wsL_law_r33 ++ (wsL_law_r34 ++ (wsL_law_r35 ++ (wsL_law_r36 ++ (wsL_law_r37 ++ (wsL_law_r38 ++ (wsL_law_r39 ++ (wsL_law_r40 ++ (wsL_law_r41 ++ (wsL_law_r42 ++ (wsL_law_r43 ++ (wsL_law_r44 ++ (wsL_law_r45 ++ (wsL_law_r46 ++ (wsL_law_r47 ++ (wsL_law_r48 ++ (wsL_law_r49 ++ (wsL_law_r50 ++ (wsL_law_r51 ++ (wsL_law_r52 ++ (wsL_law_r53 ++ (wsL_law_r54 ++ (wsL_law_r55 ++ (wsL_law_r56 ++ (wsL_law_r57 ++ (wsL_law_r58 ++ (wsL_law_r59 ++ (wsL_law_r60 ++ (wsL_law_r61 ++ (wsL_law_r62 ++ (wsL_law_r63 ++ (wsL_law_r64 ++ (wsL_law_r65 ++ (wsL_law_r66 ++ (wsL_law_r67)))))))))))))))))))))))))))))))))))))))))))))))))))))))))
theorem mq_10 : ∀ w ∈ wsR10, w ∈ wsL_law := fun _ h => mq_9 _ (List.mem_append_right _ h)
theorem mr_10 : ∀ w ∈ wsL_law_r10, w ∈ wsL_law := fun _ h => mq_10 _ (List.mem_append_left _ h)
def wsR11 : List Cond := wsL_law_r11 ++ (wsL_law_r12 ++ (wsL_law_r13 ++ (wsL_law_r14 ++ (wsL_law_r15 ++ (wsL_law_r16 ++ (wsL_law_r17 ++ (wsL_law_r18 ++ (wsL_law_r19 ++ (wsL_law_r20 ++ (wsL_law_r21 ++ (wsL_law_r22 ++ (wsL_law_r23 ++ (wsL_law_r24 ++ (wsL_law_r25 ++ (wsL_law_r26 ++ (wsL_law_r27 ++ (wsL_law_r28 ++ (wsL_law_r29 ++ (wsL_law_r30 ++ (wsL_law_r31 ++ (wsL_law_r32 ++ (wsL_law_r33 ++ (wsL_law_r34 ++ (wsL_law_r35 ++ (wsL_law_r36 ++ (wsL_law_r37 ++ (wsL_law_r38 ++ (wsL_law_r39 ++ (wsL_law_r40 ++ (wsL_law_r41 ++ (wsL_law_r42 ++ (wsL_law_r43 ++ (wsL_law_r44 ++ (wsL_law_r45 ++ (wsL_law_r46 ++ (wsL_law_r47 ++ (wsL_law_r48 ++ (wsL_law_r49 ++ (wsL_law_r50 ++ (wsL_law_r51 ++ (wsL_law_r52 ++ (wsL_law_r53 ++ (wsL_law_r54 ++ (wsL_law_r55 ++ (wsL_law_r56 ++ (wsL_law_r57 ++ (wsL_law_r58 ++ (wsL_law_r59 ++ (wsL_law_r60 ++ (wsL_law_r61 ++ (wsL_law_r62 ++ (wsL_law_r63 ++ (wsL_law_r64 ++ (wsL_law_r65 ++ (wsL_law_r66 ++ (wsL_law_r67))))))))))))))))))))))))))))))))))))))))))))))))))))))))
theorem mq_11 : ∀ w ∈ wsR11, w ∈ wsL_law := fun _ h => mq_10 _ (List.mem_append_right _ h)
theorem mr_11 : ∀ w ∈ wsL_law_r11, w ∈ wsL_law := fun _ h => mq_11 _ (List.mem_append_left _ h)
def wsR12 : List Cond := wsL_law_r12 ++ (wsL_law_r13 ++ (wsL_law_r14 ++ (wsL_law_r15 ++ (wsL_law_r16 ++ (wsL_law_r17 ++ (wsL_law_r18 ++ (wsL_law_r19 ++ (wsL_law_r20 ++ (wsL_law_r21 ++ (wsL_law_r22 ++ (wsL_law_r23 ++ (wsL_law_r24 ++ (wsL_law_r25 ++ (wsL_law_r26 ++ (wsL_law_r27 ++ (wsL_law_r28 ++ (wsL_law_r29 ++ (wsL_law_r30 ++ (wsL_law_r31 ++ (wsL_law_r32 ++ (wsL_law_r33 ++ (wsL_law_r34 ++ (wsL_law_r35 ++ (wsL_law_r36 ++ (wsL_law_r37 ++ (wsL_law_r38 ++ (wsL_law_r39 ++ (wsL_law_r40 ++ (wsL_law_r41 ++ (wsL_law_r42 ++ (wsL_law_r43 ++ (wsL_law_r44 ++ (wsL_law_r45 ++ (wsL_law_r46 ++ (wsL_law_r47 ++ (wsL_law_r48 ++ (wsL_law_r49 ++ (wsL_law_r50 ++ (wsL_law_r51 ++ (wsL_law_r52 ++ (wsL_law_r53 ++ (wsL_law_r54 ++ (wsL_law_r55 ++ (wsL_law_r56 ++ (wsL_law_r57 ++ (wsL_law_r58 ++ (wsL_law_r59 ++ (wsL_law_r60 ++ (wsL_law_r61 ++ (wsL_law_r62 ++ (wsL_law_r63 ++ (wsL_law_r64 ++ (wsL_law_r65 ++ (wsL_law_r66 ++ (wsL_law_r67)))))))))))))))))))))))))))))))))))))))))))))))))))))))
theorem mq_12 : ∀ w ∈ wsR12, w ∈ wsL_law := fun _ h => mq_11 _ (List.mem_append_right _ h)
theorem mr_12 : ∀ w ∈ wsL_law_r12, w ∈ wsL_law := fun _ h => mq_12 _ (List.mem_append_left _ h)
def wsR13 : List Cond := wsL_law_r13 ++ (wsL_law_r14 ++ (wsL_law_r15 ++ (wsL_law_r16 ++ (wsL_law_r17 ++ (wsL_law_r18 ++ (wsL_law_r19 ++ (wsL_law_r20 ++ (wsL_law_r21 ++ (wsL_law_r22 ++ (wsL_law_r23 ++ (wsL_law_r24 ++ (wsL_law_r25 ++ (wsL_law_r26 ++ (wsL_law_r27 ++ (wsL_law_r28 ++ (wsL_law_r29 ++ (wsL_law_r30 ++ (wsL_law_r31 ++ (wsL_law_r32 ++ (wsL_law_r33 ++ (wsL_law_r34 ++ (wsL_law_r35 ++ (wsL_law_r36 ++ (wsL_law_r37 ++ (wsL_law_r38 ++ (wsL_law_r39 ++ (wsL_law_r40 ++ (wsL_law_r41 ++ (wsL_law_r42 ++ (wsL_law_r43 ++ (wsL_law_r44 ++ (wsL_law_r45 ++ (wsL_law_r46 ++ (wsL_law_r47 ++ (wsL_law_r48 ++ (wsL_law_r49 ++ (wsL_law_r50 ++ (wsL_law_r51 ++ (wsL_law_r52 ++ (wsL_law_r53 ++ (wsL_law_r54 ++ (wsL_law_r55 ++ (wsL_law_r56 ++ (wsL_law_r57 ++ (wsL_law_r58 ++ (wsL_law_r59 ++ (wsL_law_r60 ++ (wsL_law_r61 ++ (wsL_law_r62 ++ (wsL_law_r63 ++ (wsL_law_r64 ++ (wsL_law_r65 ++ (wsL_law_r66 ++ (wsL_law_r67))))))))))))))))))))))))))))))))))))))))))))))))))))))
theorem mq_13 : ∀ w ∈ wsR13, w ∈ wsL_law := fun _ h => mq_12 _ (List.mem_append_right _ h)
theorem mr_13 : ∀ w ∈ wsL_law_r13, w ∈ wsL_law := fun _ h => mq_13 _ (List.mem_append_left _ h)
def wsR14 : List Cond := wsL_law_r14 ++ (wsL_law_r15 ++ (wsL_law_r16 ++ (wsL_law_r17 ++ (wsL_law_r18 ++ (wsL_law_r19 ++ (wsL_law_r20 ++ (wsL_law_r21 ++ (wsL_law_r22 ++ (wsL_law_r23 ++ (wsL_law_r24 ++ (wsL_law_r25 ++ (wsL_law_r26 ++ (wsL_law_r27 ++ (wsL_law_r28 ++ (wsL_law_r29 ++ (wsL_law_r30 ++ (wsL_law_r31 ++ (wsL_law_r32 ++ (wsL_law_r33 ++ (wsL_law_r34 ++ (wsL_law_r35 ++ (wsL_law_r36 ++ (wsL_law_r37 ++ (wsL_law_r38 ++ (wsL_law_r39 ++ (wsL_law_r40 ++ (wsL_law_r41 ++ (wsL_law_r42 ++ (wsL_law_r43 ++ (wsL_law_r44 ++ (wsL_law_r45 ++ (wsL_law_r46 ++ (wsL_law_r47 ++ (wsL_law_r48 ++ (wsL_law_r49 ++ (wsL_law_r50 ++ (wsL_law_r51 ++ (wsL_law_r52 ++ (wsL_law_r53 ++ (wsL_law_r54 ++ (wsL_law_r55 ++ (wsL_law_r56 ++ (wsL_law_r57 ++ (wsL_law_r58 ++ (wsL_law_r59 ++ (wsL_law_r60 ++ (wsL_law_r61 ++ (wsL_law_r62 ++ (wsL_law_r63 ++ (wsL_law_r64 ++ (wsL_law_r65 ++ (wsL_law_r66 ++ (wsL_law_r67)))))))))))))))))))))))))))))))))))))))))))))))))))))
theorem mq_14 : ∀ w ∈ wsR14, w ∈ wsL_law := fun _ h => mq_13 _ (List.mem_append_right _ h)
theorem mr_14 : ∀ w ∈ wsL_law_r14, w ∈ wsL_law := fun _ h => mq_14 _ (List.mem_append_left _ h)
def wsR15 : List Cond := wsL_law_r15 ++ (wsL_law_r16 ++ (wsL_law_r17 ++ (wsL_law_r18 ++ (wsL_law_r19 ++ (wsL_law_r20 ++ (wsL_law_r21 ++ (wsL_law_r22 ++ (wsL_law_r23 ++ (wsL_law_r24 ++ (wsL_law_r25 ++ (wsL_law_r26 ++ (wsL_law_r27 ++ (wsL_law_r28 ++ (wsL_law_r29 ++ (wsL_law_r30 ++ (wsL_law_r31 ++ (wsL_law_r32 ++ (wsL_law_r33 ++ (wsL_law_r34 ++ (wsL_law_r35 ++ (wsL_law_r36 ++ (wsL_law_r37 ++ (wsL_law_r38 ++ (wsL_law_r39 ++ (wsL_law_r40 ++ (wsL_law_r41 ++ (wsL_law_r42 ++ (wsL_law_r43 ++ (wsL_law_r44 ++ (wsL_law_r45 ++ (wsL_law_r46 ++ (wsL_law_r47 ++ (wsL_law_r48 ++ (wsL_law_r49 ++ (wsL_law_r50 ++ (wsL_law_r51 ++ (wsL_law_r52 ++ (wsL_law_r53 ++ (wsL_law_r54 ++ (wsL_law_r55 ++ (wsL_law_r56 ++ (wsL_law_r57 ++ (wsL_law_r58 ++ (wsL_law_r59 ++ (wsL_law_r60 ++ (wsL_law_r61 ++ (wsL_law_r62 ++ (wsL_law_r63 ++ (wsL_law_r64 ++ (wsL_law_r65 ++ (wsL_law_r66 ++ (wsL_law_r67))))))))))))))))))))))))))))))))))))))))))))))))))))
theorem mq_15 : ∀ w ∈ wsR15, w ∈ wsL_law := fun _ h => mq_14 _ (List.mem_append_right _ h)
theorem mr_15 : ∀ w ∈ wsL_law_r15, w ∈ wsL_law := fun _ h => mq_15 _ (List.mem_append_left _ h)
def wsR16 : List Cond := wsL_law_r16 ++ (wsL_law_r17 ++ (wsL_law_r18 ++ (wsL_law_r19 ++ (wsL_law_r20 ++ (wsL_law_r21 ++ (wsL_law_r22 ++ (wsL_law_r23 ++ (wsL_law_r24 ++ (wsL_law_r25 ++ (wsL_law_r26 ++ (wsL_law_r27 ++ (wsL_law_r28 ++ (wsL_law_r29 ++ (wsL_law_r30 ++ (wsL_law_r31 ++ (wsL_law_r32 ++ (wsL_law_r33 ++ (wsL_law_r34 ++ (wsL_law_r35 ++ (wsL_law_r36 ++ (wsL_law_r37 ++ (wsL_law_r38 ++ (wsL_law_r39 ++ (wsL_law_r40 ++ (wsL_law_r41 ++ (wsL_law_r42 ++ (wsL_law_r43 ++ (wsL_law_r44 ++ (wsL_law_r45 ++ (wsL_law_r46 ++ (wsL_law_r47 ++ (wsL_law_r48 ++ (wsL_law_r49 ++ (wsL_law_r50 ++ (wsL_law_r51 ++ (wsL_law_r52 ++ (wsL_law_r53 ++ (wsL_law_r54 ++ (wsL_law_r55 ++ (wsL_law_r56 ++ (wsL_law_r57 ++ (wsL_law_r58 ++ (wsL_law_r59 ++ (wsL_law_r60 ++ (wsL_law_r61 ++ (wsL_law_r62 ++ (wsL_law_r63 ++ (wsL_law_r64 ++ (wsL_law_r65 ++ (wsL_law_r66 ++ (wsL_law_r67)))))))))))))))))))))))))))))))))))))))))))))))))))
theorem mq_16 : ∀ w ∈ wsR16, w ∈ wsL_law := fun _ h => mq_15 _ (List.mem_append_right _ h)
theorem mr_16 : ∀ w ∈ wsL_law_r16, w ∈ wsL_law := fun _ h => mq_16 _ (List.mem_append_left _ h)
def wsR17 : List Cond := wsL_law_r17 ++ (wsL_law_r18 ++ (wsL_law_r19 ++ (wsL_law_r20 ++ (wsL_law_r21 ++ (wsL_law_r22 ++ (wsL_law_r23 ++ (wsL_law_r24 ++ (wsL_law_r25 ++ (wsL_law_r26 ++ (wsL_law_r27 ++ (wsL_law_r28 ++ (wsL_law_r29 ++ (wsL_law_r30 ++ (wsL_law_r31 ++ (wsL_law_r32 ++ (wsL_law_r33 ++ (wsL_law_r34 ++ (wsL_law_r35 ++ (wsL_law_r36 ++ (wsL_law_r37 ++ (wsL_law_r38 ++ (wsL_law_r39 ++ (wsL_law_r40 ++ (wsL_law_r41 ++ (wsL_law_r42 ++ (wsL_law_r43 ++ (wsL_law_r44 ++ (wsL_law_r45 ++ (wsL_law_r46 ++ (wsL_law_r47 ++ (wsL_law_r48 ++ (wsL_law_r49 ++ (wsL_law_r50 ++ (wsL_law_r51 ++ (wsL_law_r52 ++ (wsL_law_r53 ++ (wsL_law_r54 ++ (wsL_law_r55 ++ (wsL_law_r56 ++ (wsL_law_r57 ++ (wsL_law_r58 ++ (wsL_law_r59 ++ (wsL_law_r60 ++ (wsL_law_r61 ++ (wsL_law_r62 ++ (wsL_law_r63 ++ (wsL_law_r64 ++ (wsL_law_r65 ++ (wsL_law_r66 ++ (wsL_law_r67))))))))))))))))))))))))))))))))))))))))))))))))))
theorem mq_17 : ∀ w ∈ wsR17, w ∈ wsL_law := fun _ h => mq_16 _ (List.mem_append_right _ h)
theorem mr_17 : ∀ w ∈ wsL_law_r17, w ∈ wsL_law := fun _ h => mq_17 _ (List.mem_append_left _ h)
def wsR18 : List Cond := wsL_law_r18 ++ (wsL_law_r19 ++ (wsL_law_r20 ++ (wsL_law_r21 ++ (wsL_law_r22 ++ (wsL_law_r23 ++ (wsL_law_r24 ++ (wsL_law_r25 ++ (wsL_law_r26 ++ (wsL_law_r27 ++ (wsL_law_r28 ++ (wsL_law_r29 ++ (wsL_law_r30 ++ (wsL_law_r31 ++ (wsL_law_r32 ++ (wsL_law_r33 ++ (wsL_law_r34 ++ (wsL_law_r35 ++ (wsL_law_r36 ++ (wsL_law_r37 ++ (wsL_law_r38 ++ (wsL_law_r39 ++ (wsL_law_r40 ++ (wsL_law_r41 ++ (wsL_law_r42 ++ (wsL_law_r43 ++ (wsL_law_r44 ++ (wsL_law_r45 ++ (wsL_law_r46 ++ (wsL_law_r47 ++ (wsL_law_r48 ++ (wsL_law_r49 ++ (wsL_law_r50 ++ (wsL_law_r51 ++ (wsL_law_r52 ++ (wsL_law_r53 ++ (wsL_law_r54 ++ (wsL_law_r55 ++ (wsL_law_r56 ++ (wsL_law_r57 ++ (wsL_law_r58 ++ (wsL_law_r59 ++ (wsL_law_r60 ++ (wsL_law_r61 ++ (wsL_law_r62 ++ (wsL_law_r63 ++ (wsL_law_r64 ++ (wsL_law_r65 ++ (wsL_law_r66 ++ (wsL_law_r67)))))))))))))))))))))))))))))))))))))))))))))))))
theorem mq_18 : ∀ w ∈ wsR18, w ∈ wsL_law := fun _ h => mq_17 _ (List.mem_append_right _ h)
theorem mr_18 : ∀ w ∈ wsL_law_r18, w ∈ wsL_law := fun _ h => mq_18 _ (List.mem_append_left _ h)
def wsR19 : List Cond := wsL_law_r19 ++ (wsL_law_r20 ++ (wsL_law_r21 ++ (wsL_law_r22 ++ (wsL_law_r23 ++ (wsL_law_r24 ++ (wsL_law_r25 ++ (wsL_law_r26 ++ (wsL_law_r27 ++ (wsL_law_r28 ++ (wsL_law_r29 ++ (wsL_law_r30 ++ (wsL_law_r31 ++ (wsL_law_r32 ++ (wsL_law_r33 ++ (wsL_law_r34 ++ (wsL_law_r35 ++ (wsL_law_r36 ++ (wsL_law_r37 ++ (wsL_law_r38 ++ (wsL_law_r39 ++ (wsL_law_r40 ++ (wsL_law_r41 ++ (wsL_law_r42 ++ (wsL_law_r43 ++ (wsL_law_r44 ++ (wsL_law_r45 ++ (wsL_law_r46 ++ (wsL_law_r47 ++ (wsL_law_r48 ++ (wsL_law_r49 ++ (wsL_law_r50 ++ (wsL_law_r51 ++ (wsL_law_r52 ++ (wsL_law_r53 ++ (wsL_law_r54 ++ (wsL_law_r55 ++ (wsL_law_r56 ++ (wsL_law_r57 ++ (wsL_law_r58 ++ (wsL_law_r59 ++ (wsL_law_r60 ++ (wsL_law_r61 ++ (wsL_law_r62 ++ (wsL_law_r63 ++ (wsL_law_r64 ++ (wsL_law_r65 ++ (wsL_law_r66 ++ (wsL_law_r67))))))))))))))))))))))))))))))))))))))))))))))))
theorem mq_19 : ∀ w ∈ wsR19, w ∈ wsL_law := fun _ h => mq_18 _ (List.mem_append_right _ h)
theorem mr_19 : ∀ w ∈ wsL_law_r19, w ∈ wsL_law := fun _ h => mq_19 _ (List.mem_append_left _ h)
def wsR20 : List Cond := wsL_law_r20 ++ (wsL_law_r21 ++ (wsL_law_r22 ++ (wsL_law_r23 ++ (wsL_law_r24 ++ (wsL_law_r25 ++ (wsL_law_r26 ++ (wsL_law_r27 ++ (wsL_law_r28 ++ (wsL_law_r29 ++ (wsL_law_r30 ++ (wsL_law_r31 ++ (wsL_law_r32 ++ (wsL_law_r33 ++ (wsL_law_r34 ++ (wsL_law_r35 ++ (wsL_law_r36 ++ (wsL_law_r37 ++ (wsL_law_r38 ++ (wsL_law_r39 ++ (wsL_law_r40 ++ (wsL_law_r41 ++ (wsL_law_r42 ++ (wsL_law_r43 ++ (wsL_law_r44 ++ (wsL_law_r45 ++ (wsL_law_r46 ++ (wsL_law_r47 ++ (wsL_law_r48 ++ (wsL_law_r49 ++ (wsL_law_r50 ++ (wsL_law_r51 ++ (wsL_law_r52 ++ (wsL_law_r53 ++ (wsL_law_r54 ++ (wsL_law_r55 ++ (wsL_law_r56 ++ (wsL_law_r57 ++ (wsL_law_r58 ++ (wsL_law_r59 ++ (wsL_law_r60 ++ (wsL_law_r61 ++ (wsL_law_r62 ++ (wsL_law_r63 ++ (wsL_law_r64 ++ (wsL_law_r65 ++ (wsL_law_r66 ++ (wsL_law_r67)))))))))))))))))))))))))))))))))))))))))))))))
theorem mq_20 : ∀ w ∈ wsR20, w ∈ wsL_law := fun _ h => mq_19 _ (List.mem_append_right _ h)
theorem mr_20 : ∀ w ∈ wsL_law_r20, w ∈ wsL_law := fun _ h => mq_20 _ (List.mem_append_left _ h)
def wsR21 : List Cond := wsL_law_r21 ++ (wsL_law_r22 ++ (wsL_law_r23 ++ (wsL_law_r24 ++ (wsL_law_r25 ++ (wsL_law_r26 ++ (wsL_law_r27 ++ (wsL_law_r28 ++ (wsL_law_r29 ++ (wsL_law_r30 ++ (wsL_law_r31 ++ (wsL_law_r32 ++ (wsL_law_r33 ++ (wsL_law_r34 ++ (wsL_law_r35 ++ (wsL_law_r36 ++ (wsL_law_r37 ++ (wsL_law_r38 ++ (wsL_law_r39 ++ (wsL_law_r40 ++ (wsL_law_r41 ++ (wsL_law_r42 ++ (wsL_law_r43 ++ (wsL_law_r44 ++ (wsL_law_r45 ++ (wsL_law_r46 ++ (wsL_law_r47 ++ (wsL_law_r48 ++ (wsL_law_r49 ++ (wsL_law_r50 ++ (wsL_law_r51 ++ (wsL_law_r52 ++ (wsL_law_r53 ++ (wsL_law_r54 ++ (wsL_law_r55 ++ (wsL_law_r56 ++ (wsL_law_r57 ++ (wsL_law_r58 ++ (wsL_law_r59 ++ (wsL_law_r60 ++ (wsL_law_r61 ++ (wsL_law_r62 ++ (wsL_law_r63 ++ (wsL_law_r64 ++ (wsL_law_r65 ++ (wsL_law_r66 ++ (wsL_law_r67))))))))))))))))))))))))))))))))))))))))))))))
theorem mq_21 : ∀ w ∈ wsR21, w ∈ wsL_law := fun _ h => mq_20 _ (List.mem_append_right _ h)
theorem mr_21 : ∀ w ∈ wsL_law_r21, w ∈ wsL_law := fun _ h => mq_21 _ (List.mem_append_left _ h)
def wsR22 : List Cond := wsL_law_r22 ++ (wsL_law_r23 ++ (wsL_law_r24 ++ (wsL_law_r25 ++ (wsL_law_r26 ++ (wsL_law_r27 ++ (wsL_law_r28 ++ (wsL_law_r29 ++ (wsL_law_r30 ++ (wsL_law_r31 ++ (wsL_law_r32 ++ (wsL_law_r33 ++ (wsL_law_r34 ++ (wsL_law_r35 ++ (wsL_law_r36 ++ (wsL_law_r37 ++ (wsL_law_r38 ++ (wsL_law_r39 ++ (wsL_law_r40 ++ (wsL_law_r41 ++ (wsL_law_r42 ++ (wsL_law_r43 ++ (wsL_law_r44 ++ (wsL_law_r45 ++ (wsL_law_r46 ++ (wsL_law_r47 ++ (wsL_law_r48 ++ (wsL_law_r49 ++ (wsL_law_r50 ++ (wsL_law_r51 ++ (wsL_law_r52 ++ (wsL_law_r53 ++ (wsL_law_r54 ++ (wsL_law_r55 ++ (wsL_law_r56 ++ (wsL_law_r57 ++ (wsL_law_r58 ++ (wsL_law_r59 ++ (wsL_law_r60 ++ (wsL_law_r61 ++ (wsL_law_r62 ++ (wsL_law_r63 ++ (wsL_law_r64 ++ (wsL_law_r65 ++ (wsL_law_r66 ++ (wsL_law_r67)))))))))))))))))))))))))))))))))))))))))))))
theorem mq_22 : ∀ w ∈ wsR22, w ∈ wsL_law := fun _ h => mq_21 _ (List.mem_append_right _ h)
theorem mr_22 : ∀ w ∈ wsL_law_r22, w ∈ wsL_law := fun _ h => mq_22 _ (List.mem_append_left _ h)
def wsR23 : List Cond := wsL_law_r23 ++ (wsL_law_r24 ++ (wsL_law_r25 ++ (wsL_law_r26 ++ (wsL_law_r27 ++ (wsL_law_r28 ++ (wsL_law_r29 ++ (wsL_law_r30 ++ (wsL_law_r31 ++ (wsL_law_r32 ++ (wsL_law_r33 ++ (wsL_law_r34 ++ (wsL_law_r35 ++ (wsL_law_r36 ++ (wsL_law_r37 ++ (wsL_law_r38 ++ (wsL_law_r39 ++ (wsL_law_r40 ++ (wsL_law_r41 ++ (wsL_law_r42 ++ (wsL_law_r43 ++ (wsL_law_r44 ++ (wsL_law_r45 ++ (wsL_law_r46 ++ (wsL_law_r47 ++ (wsL_law_r48 ++ (wsL_law_r49 ++ (wsL_law_r50 ++ (wsL_law_r51 ++ (wsL_law_r52 ++ (wsL_law_r53 ++ (wsL_law_r54 ++ (wsL_law_r55 ++ (wsL_law_r56 ++ (wsL_law_r57 ++ (wsL_law_r58 ++ (wsL_law_r59 ++ (wsL_law_r60 ++ (wsL_law_r61 ++ (wsL_law_r62 ++ (wsL_law_r63 ++ (wsL_law_r64 ++ (wsL_law_r65 ++ (wsL_law_r66 ++ (wsL_law_r67))))))))))))))))))))))))))))))))))))))))))))
theorem mq_23 : ∀ w ∈ wsR23, w ∈ wsL_law := fun _ h => mq_22 _ (List.mem_append_right _ h)
theorem mr_23 : ∀ w ∈ wsL_law_r23, w ∈ wsL_law := fun _ h => mq_23 _ (List.mem_append_left _ h)
def wsR24 : List Cond := wsL_law_r24 ++ (wsL_law_r25 ++ (wsL_law_r26 ++ (wsL_law_r27 ++ (wsL_law_r28 ++ (wsL_law_r29 ++ (wsL_law_r30 ++ (wsL_law_r31 ++ (wsL_law_r32 ++ (wsL_law_r33 ++ (wsL_law_r34 ++ (wsL_law_r35 ++ (wsL_law_r36 ++ (wsL_law_r37 ++ (wsL_law_r38 ++ (wsL_law_r39 ++ (wsL_law_r40 ++ (wsL_law_r41 ++ (wsL_law_r42 ++ (wsL_law_r43 ++ (wsL_law_r44 ++ (wsL_law_r45 ++ (wsL_law_r46 ++ (wsL_law_r47 ++ (wsL_law_r48 ++ (wsL_law_r49 ++ (wsL_law_r50 ++ (wsL_law_r51 ++ (wsL_law_r52 ++ (wsL_law_r53 ++ (wsL_law_r54 ++ (wsL_law_r55 ++ (wsL_law_r56 ++ (wsL_law_r57 ++ (wsL_law_r58 ++ (wsL_law_r59 ++ (wsL_law_r60 ++ (wsL_law_r61 ++ (wsL_law_r62 ++ (wsL_law_r63 ++ (wsL_law_r64 ++ (wsL_law_r65 ++ (wsL_law_r66 ++ (wsL_law_r67)))))))))))))))))))))))))))))))))))))))))))
theorem mq_24 : ∀ w ∈ wsR24, w ∈ wsL_law := fun _ h => mq_23 _ (List.mem_append_right _ h)
theorem mr_24 : ∀ w ∈ wsL_law_r24, w ∈ wsL_law := fun _ h => mq_24 _ (List.mem_append_left _ h)
def wsR25 : List Cond := wsL_law_r25 ++ (wsL_law_r26 ++ (wsL_law_r27 ++ (wsL_law_r28 ++ (wsL_law_r29 ++ (wsL_law_r30 ++ (wsL_law_r31 ++ (wsL_law_r32 ++ (wsL_law_r33 ++ (wsL_law_r34 ++ (wsL_law_r35 ++ (wsL_law_r36 ++ (wsL_law_r37 ++ (wsL_law_r38 ++ (wsL_law_r39 ++ (wsL_law_r40 ++ (wsL_law_r41 ++ (wsL_law_r42 ++ (wsL_law_r43 ++ (wsL_law_r44 ++ (wsL_law_r45 ++ (wsL_law_r46 ++ (wsL_law_r47 ++ (wsL_law_r48 ++ (wsL_law_r49 ++ (wsL_law_r50 ++ (wsL_law_r51 ++ (wsL_law_r52 ++ (wsL_law_r53 ++ (wsL_law_r54 ++ (wsL_law_r55 ++ (wsL_law_r56 ++ (wsL_law_r57 ++ (wsL_law_r58 ++ (wsL_law_r59 ++ (wsL_law_r60 ++ (wsL_law_r61 ++ (wsL_law_r62 ++ (wsL_law_r63 ++ (wsL_law_r64 ++ (wsL_law_r65 ++ (wsL_law_r66 ++ (wsL_law_r67))))))))))))))))))))))))))))))))))))))))))
theorem mq_25 : ∀ w ∈ wsR25, w ∈ wsL_law := fun _ h => mq_24 _ (List.mem_append_right _ h)
theorem mr_25 : ∀ w ∈ wsL_law_r25, w ∈ wsL_law := fun _ h => mq_25 _ (List.mem_append_left _ h)
def wsR26 : List Cond := wsL_law_r26 ++ (wsL_law_r27 ++ (wsL_law_r28 ++ (wsL_law_r29 ++ (wsL_law_r30 ++ (wsL_law_r31 ++ (wsL_law_r32 ++ (wsL_law_r33 ++ (wsL_law_r34 ++ (wsL_law_r35 ++ (wsL_law_r36 ++ (wsL_law_r37 ++ (wsL_law_r38 ++ (wsL_law_r39 ++ (wsL_law_r40 ++ (wsL_law_r41 ++ (wsL_law_r42 ++ (wsL_law_r43 ++ (wsL_law_r44 ++ (wsL_law_r45 ++ (wsL_law_r46 ++ (wsL_law_r47 ++ (wsL_law_r48 ++ (wsL_law_r49 ++ (wsL_law_r50 ++ (wsL_law_r51 ++ (wsL_law_r52 ++ (wsL_law_r53 ++ (wsL_law_r54 ++ (wsL_law_r55 ++ (wsL_law_r56 ++ (wsL_law_r57 ++ (wsL_law_r58 ++ (wsL_law_r59 ++ (wsL_law_r60 ++ (wsL_law_r61 ++ (wsL_law_r62 ++ (wsL_law_r63 ++ (wsL_law_r64 ++ (wsL_law_r65 ++ (wsL_law_r66 ++ (wsL_law_r67)))))))))))))))))))))))))))))))))))))))))
theorem mq_26 : ∀ w ∈ wsR26, w ∈ wsL_law := fun _ h => mq_25 _ (List.mem_append_right _ h)
theorem mr_26 : ∀ w ∈ wsL_law_r26, w ∈ wsL_law := fun _ h => mq_26 _ (List.mem_append_left _ h)
def wsR27 : List Cond := wsL_law_r27 ++ (wsL_law_r28 ++ (wsL_law_r29 ++ (wsL_law_r30 ++ (wsL_law_r31 ++ (wsL_law_r32 ++ (wsL_law_r33 ++ (wsL_law_r34 ++ (wsL_law_r35 ++ (wsL_law_r36 ++ (wsL_law_r37 ++ (wsL_law_r38 ++ (wsL_law_r39 ++ (wsL_law_r40 ++ (wsL_law_r41 ++ (wsL_law_r42 ++ (wsL_law_r43 ++ (wsL_law_r44 ++ (wsL_law_r45 ++ (wsL_law_r46 ++ (wsL_law_r47 ++ (wsL_law_r48 ++ (wsL_law_r49 ++ (wsL_law_r50 ++ (wsL_law_r51 ++ (wsL_law_r52 ++ (wsL_law_r53 ++ (wsL_law_r54 ++ (wsL_law_r55 ++ (wsL_law_r56 ++ (wsL_law_r57 ++ (wsL_law_r58 ++ (wsL_law_r59 ++ (wsL_law_r60 ++ (wsL_law_r61 ++ (wsL_law_r62 ++ (wsL_law_r63 ++ (wsL_law_r64 ++ (wsL_law_r65 ++ (wsL_law_r66 ++ (wsL_law_r67))))))))))))))))))))))))))))))))))))))))
theorem mq_27 : ∀ w ∈ wsR27, w ∈ wsL_law := fun _ h => mq_26 _ (List.mem_append_right _ h)
theorem mr_27 : ∀ w ∈ wsL_law_r27, w ∈ wsL_law := fun _ h => mq_27 _ (List.mem_append_left _ h)
def wsR28 : List Cond := wsL_law_r28 ++ (wsL_law_r29 ++ (wsL_law_r30 ++ (wsL_law_r31 ++ (wsL_law_r32 ++ (wsL_law_r33 ++ (wsL_law_r34 ++ (wsL_law_r35 ++ (wsL_law_r36 ++ (wsL_law_r37 ++ (wsL_law_r38 ++ (wsL_law_r39 ++ (wsL_law_r40 ++ (wsL_law_r41 ++ (wsL_law_r42 ++ (wsL_law_r43 ++ (wsL_law_r44 ++ (wsL_law_r45 ++ (wsL_law_r46 ++ (wsL_law_r47 ++ (wsL_law_r48 ++ (wsL_law_r49 ++ (wsL_law_r50 ++ (wsL_law_r51 ++ (wsL_law_r52 ++ (wsL_law_r53 ++ (wsL_law_r54 ++ (wsL_law_r55 ++ (wsL_law_r56 ++ (wsL_law_r57 ++ (wsL_law_r58 ++ (wsL_law_r59 ++ (wsL_law_r60 ++ (wsL_law_r61 ++ (wsL_law_r62 ++ (wsL_law_r63 ++ (wsL_law_r64 ++ (wsL_law_r65 ++ (wsL_law_r66 ++ (wsL_law_r67)))))))))))))))))))))))))))))))))))))))
theorem mq_28 : ∀ w ∈ wsR28, w ∈ wsL_law := fun _ h => mq_27 _ (List.mem_append_right _ h)
theorem mr_28 : ∀ w ∈ wsL_law_r28, w ∈ wsL_law := fun _ h => mq_28 _ (List.mem_append_left _ h)
def wsR29 : List Cond := wsL_law_r29 ++ (wsL_law_r30 ++ (wsL_law_r31 ++ (wsL_law_r32 ++ (wsL_law_r33 ++ (wsL_law_r34 ++ (wsL_law_r35 ++ (wsL_law_r36 ++ (wsL_law_r37 ++ (wsL_law_r38 ++ (wsL_law_r39 ++ (wsL_law_r40 ++ (wsL_law_r41 ++ (wsL_law_r42 ++ (wsL_law_r43 ++ (wsL_law_r44 ++ (wsL_law_r45 ++ (wsL_law_r46 ++ (wsL_law_r47 ++ (wsL_law_r48 ++ (wsL_law_r49 ++ (wsL_law_r50 ++ (wsL_law_r51 ++ (wsL_law_r52 ++ (wsL_law_r53 ++ (wsL_law_r54 ++ (wsL_law_r55 ++ (wsL_law_r56 ++ (wsL_law_r57 ++ (wsL_law_r58 ++ (wsL_law_r59 ++ (wsL_law_r60 ++ (wsL_law_r61 ++ (wsL_law_r62 ++ (wsL_law_r63 ++ (wsL_law_r64 ++ (wsL_law_r65 ++ (wsL_law_r66 ++ (wsL_law_r67))))))))))))))))))))))))))))))))))))))
theorem mq_29 : ∀ w ∈ wsR29, w ∈ wsL_law := fun _ h => mq_28 _ (List.mem_append_right _ h)
theorem mr_29 : ∀ w ∈ wsL_law_r29, w ∈ wsL_law := fun _ h => mq_29 _ (List.mem_append_left _ h)
def wsR30 : List Cond := wsL_law_r30 ++ (wsL_law_r31 ++ (wsL_law_r32 ++ (wsL_law_r33 ++ (wsL_law_r34 ++ (wsL_law_r35 ++ (wsL_law_r36 ++ (wsL_law_r37 ++ (wsL_law_r38 ++ (wsL_law_r39 ++ (wsL_law_r40 ++ (wsL_law_r41 ++ (wsL_law_r42 ++ (wsL_law_r43 ++ (wsL_law_r44 ++ (wsL_law_r45 ++ (wsL_law_r46 ++ (wsL_law_r47 ++ (wsL_law_r48 ++ (wsL_law_r49 ++ (wsL_law_r50 ++ (wsL_law_r51 ++ (wsL_law_r52 ++ (wsL_law_r53 ++ (wsL_law_r54 ++ (wsL_law_r55 ++ (wsL_law_r56 ++ (wsL_law_r57 ++ (wsL_law_r58 ++ (wsL_law_r59 ++ (wsL_law_r60 ++ (wsL_law_r61 ++ (wsL_law_r62 ++ (wsL_law_r63 ++ (wsL_law_r64 ++ (wsL_law_r65 ++ (wsL_law_r66 ++ (wsL_law_r67)))))))))))))))))))))))))))))))))))))
theorem mq_30 : ∀ w ∈ wsR30, w ∈ wsL_law := fun _ h => mq_29 _ (List.mem_append_right _ h)
theorem mr_30 : ∀ w ∈ wsL_law_r30, w ∈ wsL_law := fun _ h => mq_30 _ (List.mem_append_left _ h)
def wsR31 : List Cond := wsL_law_r31 ++ (wsL_law_r32 ++ (wsL_law_r33 ++ (wsL_law_r34 ++ (wsL_law_r35 ++ (wsL_law_r36 ++ (wsL_law_r37 ++ (wsL_law_r38 ++ (wsL_law_r39 ++ (wsL_law_r40 ++ (wsL_law_r41 ++ (wsL_law_r42 ++ (wsL_law_r43 ++ (wsL_law_r44 ++ (wsL_law_r45 ++ (wsL_law_r46 ++ (wsL_law_r47 ++ (wsL_law_r48 ++ (wsL_law_r49 ++ (wsL_law_r50 ++ (wsL_law_r51 ++ (wsL_law_r52 ++ (wsL_law_r53 ++ (wsL_law_r54 ++ (wsL_law_r55 ++ (wsL_law_r56 ++ (wsL_law_r57 ++ (wsL_law_r58 ++ (wsL_law_r59 ++ (wsL_law_r60 ++ (wsL_law_r61 ++ (wsL_law_r62 ++ (wsL_law_r63 ++ (wsL_law_r64 ++ (wsL_law_r65 ++ (wsL_law_r66 ++ (wsL_law_r67))))))))))))))))))))))))))))))))))))
theorem mq_31 : ∀ w ∈ wsR31, w ∈ wsL_law := fun _ h => mq_30 _ (List.mem_append_right _ h)
theorem mr_31 : ∀ w ∈ wsL_law_r31, w ∈ wsL_law := fun _ h => mq_31 _ (List.mem_append_left _ h)
def wsR32 : List Cond := wsL_law_r32 ++ (wsL_law_r33 ++ (wsL_law_r34 ++ (wsL_law_r35 ++ (wsL_law_r36 ++ (wsL_law_r37 ++ (wsL_law_r38 ++ (wsL_law_r39 ++ (wsL_law_r40 ++ (wsL_law_r41 ++ (wsL_law_r42 ++ (wsL_law_r43 ++ (wsL_law_r44 ++ (wsL_law_r45 ++ (wsL_law_r46 ++ (wsL_law_r47 ++ (wsL_law_r48 ++ (wsL_law_r49 ++ (wsL_law_r50 ++ (wsL_law_r51 ++ (wsL_law_r52 ++ (wsL_law_r53 ++ (wsL_law_r54 ++ (wsL_law_r55 ++ (wsL_law_r56 ++ (wsL_law_r57 ++ (wsL_law_r58 ++ (wsL_law_r59 ++ (wsL_law_r60 ++ (wsL_law_r61 ++ (wsL_law_r62 ++ (wsL_law_r63 ++ (wsL_law_r64 ++ (wsL_law_r65 ++ (wsL_law_r66 ++ (wsL_law_r67)))))))))))))))))))))))))))))))))))
theorem mq_32 : ∀ w ∈ wsR32, w ∈ wsL_law := fun _ h => mq_31 _ (List.mem_append_right _ h)
theorem mr_32 : ∀ w ∈ wsL_law_r32, w ∈ wsL_law := fun _ h => mq_32 _ (List.mem_append_left _ h)
def wsR33 : List Cond := wsL_law_r33 ++ (wsL_law_r34 ++ (wsL_law_r35 ++ (wsL_law_r36 ++ (wsL_law_r37 ++ (wsL_law_r38 ++ (wsL_law_r39 ++ (wsL_law_r40 ++ (wsL_law_r41 ++ (wsL_law_r42 ++ (wsL_law_r43 ++ (wsL_law_r44 ++ (wsL_law_r45 ++ (wsL_law_r46 ++ (wsL_law_r47 ++ (wsL_law_r48 ++ (wsL_law_r49 ++ (wsL_law_r50 ++ (wsL_law_r51 ++ (wsL_law_r52 ++ (wsL_law_r53 ++ (wsL_law_r54 ++ (wsL_law_r55 ++ (wsL_law_r56 ++ (wsL_law_r57 ++ (wsL_law_r58 ++ (wsL_law_r59 ++ (wsL_law_r60 ++ (wsL_law_r61 ++ (wsL_law_r62 ++ (wsL_law_r63 ++ (wsL_law_r64 ++ (wsL_law_r65 ++ (wsL_law_r66 ++ (wsL_law_r67))))))))))))))))))))))))))))))))))
theorem mq_33 : ∀ w ∈ wsR33, w ∈ wsL_law := fun _ h => mq_32 _ (List.mem_append_right _ h)
theorem mr_33 : ∀ w ∈ wsL_law_r33, w ∈ wsL_law := fun _ h => mq_33 _ (List.mem_append_left _ h)
def wsR34 : List Cond := wsL_law_r34 ++ (wsL_law_r35 ++ (wsL_law_r36 ++ (wsL_law_r37 ++ (wsL_law_r38 ++ (wsL_law_r39 ++ (wsL_law_r40 ++ (wsL_law_r41 ++ (wsL_law_r42 ++ (wsL_law_r43 ++ (wsL_law_r44 ++ (wsL_law_r45 ++ (wsL_law_r46 ++ (wsL_law_r47 ++ (wsL_law_r48 ++ (wsL_law_r49 ++ (wsL_law_r50 ++ (wsL_law_r51 ++ (wsL_law_r52 ++ (wsL_law_r53 ++ (wsL_law_r54 ++ (wsL_law_r55 ++ (wsL_law_r56 ++ (wsL_law_r57 ++ (wsL_law_r58 ++ (wsL_law_r59 ++ (wsL_law_r60 ++ (wsL_law_r61 ++ (wsL_law_r62 ++ (wsL_law_r63 ++ (wsL_law_r64 ++ (wsL_law_r65 ++ (wsL_law_r66 ++ (wsL_law_r67)))))))))))))))))))))))))))))))))
theorem mq_34 : ∀ w ∈ wsR34, w ∈ wsL_law := fun _ h => mq_33 _ (List.mem_append_right _ h)
theorem mr_34 : ∀ w ∈ wsL_law_r34, w ∈ wsL_law := fun _ h => mq_34 _ (List.mem_append_left _ h)
def wsR35 : List Cond := wsL_law_r35 ++ (wsL_law_r36 ++ (wsL_law_r37 ++ (wsL_law_r38 ++ (wsL_law_r39 ++ (wsL_law_r40 ++ (wsL_law_r41 ++ (wsL_law_r42 ++ (wsL_law_r43 ++ (wsL_law_r44 ++ (wsL_law_r45 ++ (wsL_law_r46 ++ (wsL_law_r47 ++ (wsL_law_r48 ++ (wsL_law_r49 ++ (wsL_law_r50 ++ (wsL_law_r51 ++ (wsL_law_r52 ++ (wsL_law_r53 ++ (wsL_law_r54 ++ (wsL_law_r55 ++ (wsL_law_r56 ++ (wsL_law_r57 ++ (wsL_law_r58 ++ (wsL_law_r59 ++ (wsL_law_r60 ++ (wsL_law_r61 ++ (wsL_law_r62 ++ (wsL_law_r63 ++ (wsL_law_r64 ++ (wsL_law_r65 ++ (wsL_law_r66 ++ (wsL_law_r67))))))))))))))))))))))))))))))))
theorem mq_35 : ∀ w ∈ wsR35, w ∈ wsL_law := fun _ h => mq_34 _ (List.mem_append_right _ h)
theorem mr_35 : ∀ w ∈ wsL_law_r35, w ∈ wsL_law := fun _ h => mq_35 _ (List.mem_append_left _ h)
def wsR36 : List Cond := wsL_law_r36 ++ (wsL_law_r37 ++ (wsL_law_r38 ++ (wsL_law_r39 ++ (wsL_law_r40 ++ (wsL_law_r41 ++ (wsL_law_r42 ++ (wsL_law_r43 ++ (wsL_law_r44 ++ (wsL_law_r45 ++ (wsL_law_r46 ++ (wsL_law_r47 ++ (wsL_law_r48 ++ (wsL_law_r49 ++ (wsL_law_r50 ++ (wsL_law_r51 ++ (wsL_law_r52 ++ (wsL_law_r53 ++ (wsL_law_r54 ++ (wsL_law_r55 ++ (wsL_law_r56 ++ (wsL_law_r57 ++ (wsL_law_r58 ++ (wsL_law_r59 ++ (wsL_law_r60 ++ (wsL_law_r61 ++ (wsL_law_r62 ++ (wsL_law_r63 ++ (wsL_law_r64 ++ (wsL_law_r65 ++ (wsL_law_r66 ++ (wsL_law_r67)))))))))))))))))))))))))))))))
theorem mq_36 : ∀ w ∈ wsR36, w ∈ wsL_law := fun _ h => mq_35 _ (List.mem_append_right _ h)
theorem mr_36 : ∀ w ∈ wsL_law_r36, w ∈ wsL_law := fun _ h => mq_36 _ (List.mem_append_left _ h)
def wsR37 : List Cond := wsL_law_r37 ++ (wsL_law_r38 ++ (wsL_law_r39 ++ (wsL_law_r40 ++ (wsL_law_r41 ++ (wsL_law_r42 ++ (wsL_law_r43 ++ (wsL_law_r44 ++ (wsL_law_r45 ++ (wsL_law_r46 ++ (wsL_law_r47 ++ (wsL_law_r48 ++ (wsL_law_r49 ++ (wsL_law_r50 ++ (wsL_law_r51 ++ (wsL_law_r52 ++ (wsL_law_r53 ++ (wsL_law_r54 ++ (wsL_law_r55 ++ (wsL_law_r56 ++ (wsL_law_r57 ++ (wsL_law_r58 ++ (wsL_law_r59 ++ (wsL_law_r60 ++ (wsL_law_r61 ++ (wsL_law_r62 ++ (wsL_law_r63 ++ (wsL_law_r64 ++ (wsL_law_r65 ++ (wsL_law_r66 ++ (wsL_law_r67))))))))))))))))))))))))))))))
theorem mq_37 : ∀ w ∈ wsR37, w ∈ wsL_law := fun _ h => mq_36 _ (List.mem_append_right _ h)
theorem mr_37 : ∀ w ∈ wsL_law_r37, w ∈ wsL_law := fun _ h => mq_37 _ (List.mem_append_left _ h)
def wsR38 : List Cond := wsL_law_r38 ++ (wsL_law_r39 ++ (wsL_law_r40 ++ (wsL_law_r41 ++ (wsL_law_r42 ++ (wsL_law_r43 ++ (wsL_law_r44 ++ (wsL_law_r45 ++ (wsL_law_r46 ++ (wsL_law_r47 ++ (wsL_law_r48 ++ (wsL_law_r49 ++ (wsL_law_r50 ++ (wsL_law_r51 ++ (wsL_law_r52 ++ (wsL_law_r53 ++ (wsL_law_r54 ++ (wsL_law_r55 ++ (wsL_law_r56 ++ (wsL_law_r57 ++ (wsL_law_r58 ++ (wsL_law_r59 ++ (wsL_law_r60 ++ (wsL_law_r61 ++ (wsL_law_r62 ++ (wsL_law_r63 ++ (wsL_law_r64 ++ (wsL_law_r65 ++ (wsL_law_r66 ++ (wsL_law_r67)))))))))))))))))))))))))))))
theorem mq_38 : ∀ w ∈ wsR38, w ∈ wsL_law := fun _ h => mq_37 _ (List.mem_append_right _ h)
theorem mr_38 : ∀ w ∈ wsL_law_r38, w ∈ wsL_law := fun _ h => mq_38 _ (List.mem_append_left _ h)
def wsR39 : List Cond := wsL_law_r39 ++ (wsL_law_r40 ++ (wsL_law_r41 ++ (wsL_law_r42 ++ (wsL_law_r43 ++ (wsL_law_r44 ++ (wsL_law_r45 ++ (wsL_law_r46 ++ (wsL_law_r47 ++ (wsL_law_r48 ++ (wsL_law_r49 ++ (wsL_law_r50 ++ (wsL_law_r51 ++ (wsL_law_r52 ++ (wsL_law_r53 ++ (wsL_law_r54 ++ (wsL_law_r55 ++ (wsL_law_r56 ++ (wsL_law_r57 ++ (wsL_law_r58 ++ (wsL_law_r59 ++ (wsL_law_r60 ++ (wsL_law_r61 ++ (wsL_law_r62 ++ (wsL_law_r63 ++ (wsL_law_r64 ++ (wsL_law_r65 ++ (wsL_law_r66 ++ (wsL_law_r67))))))))))))))))))))))))))))
theorem mq_39 : ∀ w ∈ wsR39, w ∈ wsL_law := fun _ h => mq_38 _ (List.mem_append_right _ h)
theorem mr_39 : ∀ w ∈ wsL_law_r39, w ∈ wsL_law := fun _ h => mq_39 _ (List.mem_append_left _ h)
def wsR40 : List Cond := wsL_law_r40 ++ (wsL_law_r41 ++ (wsL_law_r42 ++ (wsL_law_r43 ++ (wsL_law_r44 ++ (wsL_law_r45 ++ (wsL_law_r46 ++ (wsL_law_r47 ++ (wsL_law_r48 ++ (wsL_law_r49 ++ (wsL_law_r50 ++ (wsL_law_r51 ++ (wsL_law_r52 ++ (wsL_law_r53 ++ (wsL_law_r54 ++ (wsL_law_r55 ++ (wsL_law_r56 ++ (wsL_law_r57 ++ (wsL_law_r58 ++ (wsL_law_r59 ++ (wsL_law_r60 ++ (wsL_law_r61 ++ (wsL_law_r62 ++ (wsL_law_r63 ++ (wsL_law_r64 ++ (wsL_law_r65 ++ (wsL_law_r66 ++ (wsL_law_r67)))))))))))))))))))))))))))
theorem mq_40 : ∀ w ∈ wsR40, w ∈ wsL_law := fun _ h => mq_39 _ (List.mem_append_right _ h)
theorem mr_40 : ∀ w ∈ wsL_law_r40, w ∈ wsL_law := fun _ h => mq_40 _ (List.mem_append_left _ h)
def wsR41 : List Cond := wsL_law_r41 ++ (wsL_law_r42 ++ (wsL_law_r43 ++ (wsL_law_r44 ++ (wsL_law_r45 ++ (wsL_law_r46 ++ (wsL_law_r47 ++ (wsL_law_r48 ++ (wsL_law_r49 ++ (wsL_law_r50 ++ (wsL_law_r51 ++ (wsL_law_r52 ++ (wsL_law_r53 ++ (wsL_law_r54 ++ (wsL_law_r55 ++ (wsL_law_r56 ++ (wsL_law_r57 ++ (wsL_law_r58 ++ (wsL_law_r59 ++ (wsL_law_r60 ++ (wsL_law_r61 ++ (wsL_law_r62 ++ (wsL_law_r63 ++ (wsL_law_r64 ++ (wsL_law_r65 ++ (wsL_law_r66 ++ (wsL_law_r67))))))))))))))))))))))))))
theorem mq_41 : ∀ w ∈ wsR41, w ∈ wsL_law := fun _ h => mq_40 _ (List.mem_append_right _ h)
theorem mr_41 : ∀ w ∈ wsL_law_r41, w ∈ wsL_law := fun _ h => mq_41 _ (List.mem_append_left _ h)
def wsR42 : List Cond := wsL_law_r42 ++ (wsL_law_r43 ++ (wsL_law_r44 ++ (wsL_law_r45 ++ (wsL_law_r46 ++ (wsL_law_r47 ++ (wsL_law_r48 ++ (wsL_law_r49 ++ (wsL_law_r50 ++ (wsL_law_r51 ++ (wsL_law_r52 ++ (wsL_law_r53 ++ (wsL_law_r54 ++ (wsL_law_r55 ++ (wsL_law_r56 ++ (wsL_law_r57 ++ (wsL_law_r58 ++ (wsL_law_r59 ++ (wsL_law_r60 ++ (wsL_law_r61 ++ (wsL_law_r62 ++ (wsL_law_r63 ++ (wsL_law_r64 ++ (wsL_law_r65 ++ (wsL_law_r66 ++ (wsL_law_r67)))))))))))))))))))))))))
theorem mq_42 : ∀ w ∈ wsR42, w ∈ wsL_law := fun _ h => mq_41 _ (List.mem_append_right _ h)
theorem mr_42 : ∀ w ∈ wsL_law_r42, w ∈ wsL_law := fun _ h => mq_42 _ (List.mem_append_left _ h)
def wsR43 : List Cond := wsL_law_r43 ++ (wsL_law_r44 ++ (wsL_law_r45 ++ (wsL_law_r46 ++ (wsL_law_r47 ++ (wsL_law_r48 ++ (wsL_law_r49 ++ (wsL_law_r50 ++ (wsL_law_r51 ++ (wsL_law_r52 ++ (wsL_law_r53 ++ (wsL_law_r54 ++ (wsL_law_r55 ++ (wsL_law_r56 ++ (wsL_law_r57 ++ (wsL_law_r58 ++ (wsL_law_r59 ++ (wsL_law_r60 ++ (wsL_law_r61 ++ (wsL_law_r62 ++ (wsL_law_r63 ++ (wsL_law_r64 ++ (wsL_law_r65 ++ (wsL_law_r66 ++ (wsL_law_r67))))))))))))))))))))))))
theorem mq_43 : ∀ w ∈ wsR43, w ∈ wsL_law := fun _ h => mq_42 _ (List.mem_append_right _ h)
theorem mr_43 : ∀ w ∈ wsL_law_r43, w ∈ wsL_law := fun _ h => mq_43 _ (List.mem_append_left _ h)
def wsR44 : List Cond := wsL_law_r44 ++ (wsL_law_r45 ++ (wsL_law_r46 ++ (wsL_law_r47 ++ (wsL_law_r48 ++ (wsL_law_r49 ++ (wsL_law_r50 ++ (wsL_law_r51 ++ (wsL_law_r52 ++ (wsL_law_r53 ++ (wsL_law_r54 ++ (wsL_law_r55 ++ (wsL_law_r56 ++ (wsL_law_r57 ++ (wsL_law_r58 ++ (wsL_law_r59 ++ (wsL_law_r60 ++ (wsL_law_r61 ++ (wsL_law_r62 ++ (wsL_law_r63 ++ (wsL_law_r64 ++ (wsL_law_r65 ++ (wsL_law_r66 ++ (wsL_law_r67)))))))))))))))))))))))
theorem mq_44 : ∀ w ∈ wsR44, w ∈ wsL_law := fun _ h => mq_43 _ (List.mem_append_right _ h)
theorem mr_44 : ∀ w ∈ wsL_law_r44, w ∈ wsL_law := fun _ h => mq_44 _ (List.mem_append_left _ h)
def wsR45 : List Cond := wsL_law_r45 ++ (wsL_law_r46 ++ (wsL_law_r47 ++ (wsL_law_r48 ++ (wsL_law_r49 ++ (wsL_law_r50 ++ (wsL_law_r51 ++ (wsL_law_r52 ++ (wsL_law_r53 ++ (wsL_law_r54 ++ (wsL_law_r55 ++ (wsL_law_r56 ++ (wsL_law_r57 ++ (wsL_law_r58 ++ (wsL_law_r59 ++ (wsL_law_r60 ++ (wsL_law_r61 ++ (wsL_law_r62 ++ (wsL_law_r63 ++ (wsL_law_r64 ++ (wsL_law_r65 ++ (wsL_law_r66 ++ (wsL_law_r67))))))))))))))))))))))
theorem mq_45 : ∀ w ∈ wsR45, w ∈ wsL_law := fun _ h => mq_44 _ (List.mem_append_right _ h)
theorem mr_45 : ∀ w ∈ wsL_law_r45, w ∈ wsL_law := fun _ h => mq_45 _ (List.mem_append_left _ h)
def wsR46 : List Cond := wsL_law_r46 ++ (wsL_law_r47 ++ (wsL_law_r48 ++ (wsL_law_r49 ++ (wsL_law_r50 ++ (wsL_law_r51 ++ (wsL_law_r52 ++ (wsL_law_r53 ++ (wsL_law_r54 ++ (wsL_law_r55 ++ (wsL_law_r56 ++ (wsL_law_r57 ++ (wsL_law_r58 ++ (wsL_law_r59 ++ (wsL_law_r60 ++ (wsL_law_r61 ++ (wsL_law_r62 ++ (wsL_law_r63 ++ (wsL_law_r64 ++ (wsL_law_r65 ++ (wsL_law_r66 ++ (wsL_law_r67)))))))))))))))))))))
theorem mq_46 : ∀ w ∈ wsR46, w ∈ wsL_law := fun _ h => mq_45 _ (List.mem_append_right _ h)
theorem mr_46 : ∀ w ∈ wsL_law_r46, w ∈ wsL_law := fun _ h => mq_46 _ (List.mem_append_left _ h)
def wsR47 : List Cond := wsL_law_r47 ++ (wsL_law_r48 ++ (wsL_law_r49 ++ (wsL_law_r50 ++ (wsL_law_r51 ++ (wsL_law_r52 ++ (wsL_law_r53 ++ (wsL_law_r54 ++ (wsL_law_r55 ++ (wsL_law_r56 ++ (wsL_law_r57 ++ (wsL_law_r58 ++ (wsL_law_r59 ++ (wsL_law_r60 ++ (wsL_law_r61 ++ (wsL_law_r62 ++ (wsL_law_r63 ++ (wsL_law_r64 ++ (wsL_law_r65 ++ (wsL_law_r66 ++ (wsL_law_r67))))))))))))))))))))
theorem mq_47 : ∀ w ∈ wsR47, w ∈ wsL_law := fun _ h => mq_46 _ (List.mem_append_right _ h)
theorem mr_47 : ∀ w ∈ wsL_law_r47, w ∈ wsL_law := fun _ h => mq_47 _ (List.mem_append_left _ h)
def wsR48 : List Cond := wsL_law_r48 ++ (wsL_law_r49 ++ (wsL_law_r50 ++ (wsL_law_r51 ++ (wsL_law_r52 ++ (wsL_law_r53 ++ (wsL_law_r54 ++ (wsL_law_r55 ++ (wsL_law_r56 ++ (wsL_law_r57 ++ (wsL_law_r58 ++ (wsL_law_r59 ++ (wsL_law_r60 ++ (wsL_law_r61 ++ (wsL_law_r62 ++ (wsL_law_r63 ++ (wsL_law_r64 ++ (wsL_law_r65 ++ (wsL_law_r66 ++ (wsL_law_r67)))))))))))))))))))
theorem mq_48 : ∀ w ∈ wsR48, w ∈ wsL_law := fun _ h => mq_47 _ (List.mem_append_right _ h)
theorem mr_48 : ∀ w ∈ wsL_law_r48, w ∈ wsL_law := fun _ h => mq_48 _ (List.mem_append_left _ h)
def wsR49 : List Cond := wsL_law_r49 ++ (wsL_law_r50 ++ (wsL_law_r51 ++ (wsL_law_r52 ++ (wsL_law_r53 ++ (wsL_law_r54 ++ (wsL_law_r55 ++ (wsL_law_r56 ++ (wsL_law_r57 ++ (wsL_law_r58 ++ (wsL_law_r59 ++ (wsL_law_r60 ++ (wsL_law_r61 ++ (wsL_law_r62 ++ (wsL_law_r63 ++ (wsL_law_r64 ++ (wsL_law_r65 ++ (wsL_law_r66 ++ (wsL_law_r67))))))))))))))))))
theorem mq_49 : ∀ w ∈ wsR49, w ∈ wsL_law := fun _ h => mq_48 _ (List.mem_append_right _ h)
theorem mr_49 : ∀ w ∈ wsL_law_r49, w ∈ wsL_law := fun _ h => mq_49 _ (List.mem_append_left _ h)
def wsR50 : List Cond := wsL_law_r50 ++ (wsL_law_r51 ++ (wsL_law_r52 ++ (wsL_law_r53 ++ (wsL_law_r54 ++ (wsL_law_r55 ++ (wsL_law_r56 ++ (wsL_law_r57 ++ (wsL_law_r58 ++ (wsL_law_r59 ++ (wsL_law_r60 ++ (wsL_law_r61 ++ (wsL_law_r62 ++ (wsL_law_r63 ++ (wsL_law_r64 ++ (wsL_law_r65 ++ (wsL_law_r66 ++ (wsL_law_r67)))))))))))))))))
theorem mq_50 : ∀ w ∈ wsR50, w ∈ wsL_law := fun _ h => mq_49 _ (List.mem_append_right _ h)
theorem mr_50 : ∀ w ∈ wsL_law_r50, w ∈ wsL_law := fun _ h => mq_50 _ (List.mem_append_left _ h)
def wsR51 : List Cond := wsL_law_r51 ++ (wsL_law_r52 ++ (wsL_law_r53 ++ (wsL_law_r54 ++ (wsL_law_r55 ++ (wsL_law_r56 ++ (wsL_law_r57 ++ (wsL_law_r58 ++ (wsL_law_r59 ++ (wsL_law_r60 ++ (wsL_law_r61 ++ (wsL_law_r62 ++ (wsL_law_r63 ++ (wsL_law_r64 ++ (wsL_law_r65 ++ (wsL_law_r66 ++ (wsL_law_r67))))))))))))))))
theorem mq_51 : ∀ w ∈ wsR51, w ∈ wsL_law := fun _ h => mq_50 _ (List.mem_append_right _ h)
theorem mr_51 : ∀ w ∈ wsL_law_r51, w ∈ wsL_law := fun _ h => mq_51 _ (List.mem_append_left _ h)
def wsR52 : List Cond := wsL_law_r52 ++ (wsL_law_r53 ++ (wsL_law_r54 ++ (wsL_law_r55 ++ (wsL_law_r56 ++ (wsL_law_r57 ++ (wsL_law_r58 ++ (wsL_law_r59 ++ (wsL_law_r60 ++ (wsL_law_r61 ++ (wsL_law_r62 ++ (wsL_law_r63 ++ (wsL_law_r64 ++ (wsL_law_r65 ++ (wsL_law_r66 ++ (wsL_law_r67)))))))))))))))
theorem mq_52 : ∀ w ∈ wsR52, w ∈ wsL_law := fun _ h => mq_51 _ (List.mem_append_right _ h)
theorem mr_52 : ∀ w ∈ wsL_law_r52, w ∈ wsL_law := fun _ h => mq_52 _ (List.mem_append_left _ h)
def wsR53 : List Cond := wsL_law_r53 ++ (wsL_law_r54 ++ (wsL_law_r55 ++ (wsL_law_r56 ++ (wsL_law_r57 ++ (wsL_law_r58 ++ (wsL_law_r59 ++ (wsL_law_r60 ++ (wsL_law_r61 ++ (wsL_law_r62 ++ (wsL_law_r63 ++ (wsL_law_r64 ++ (wsL_law_r65 ++ (wsL_law_r66 ++ (wsL_law_r67))))))))))))))
theorem mq_53 : ∀ w ∈ wsR53, w ∈ wsL_law := fun _ h => mq_52 _ (List.mem_append_right _ h)
theorem mr_53 : ∀ w ∈ wsL_law_r53, w ∈ wsL_law := fun _ h => mq_53 _ (List.mem_append_left _ h)
def wsR54 : List Cond := wsL_law_r54 ++ (wsL_law_r55 ++ (wsL_law_r56 ++ (wsL_law_r57 ++ (wsL_law_r58 ++ (wsL_law_r59 ++ (wsL_law_r60 ++ (wsL_law_r61 ++ (wsL_law_r62 ++ (wsL_law_r63 ++ (wsL_law_r64 ++ (wsL_law_r65 ++ (wsL_law_r66 ++ (wsL_law_r67)))))))))))))
theorem mq_54 : ∀ w ∈ wsR54, w ∈ wsL_law := fun _ h => mq_53 _ (List.mem_append_right _ h)
theorem mr_54 : ∀ w ∈ wsL_law_r54, w ∈ wsL_law := fun _ h => mq_54 _ (List.mem_append_left _ h)
def wsR55 : List Cond := wsL_law_r55 ++ (wsL_law_r56 ++ (wsL_law_r57 ++ (wsL_law_r58 ++ (wsL_law_r59 ++ (wsL_law_r60 ++ (wsL_law_r61 ++ (wsL_law_r62 ++ (wsL_law_r63 ++ (wsL_law_r64 ++ (wsL_law_r65 ++ (wsL_law_r66 ++ (wsL_law_r67))))))))))))
theorem mq_55 : ∀ w ∈ wsR55, w ∈ wsL_law := fun _ h => mq_54 _ (List.mem_append_right _ h)
theorem mr_55 : ∀ w ∈ wsL_law_r55, w ∈ wsL_law := fun _ h => mq_55 _ (List.mem_append_left _ h)
def wsR56 : List Cond := wsL_law_r56 ++ (wsL_law_r57 ++ (wsL_law_r58 ++ (wsL_law_r59 ++ (wsL_law_r60 ++ (wsL_law_r61 ++ (wsL_law_r62 ++ (wsL_law_r63 ++ (wsL_law_r64 ++ (wsL_law_r65 ++ (wsL_law_r66 ++ (wsL_law_r67)))))))))))
theorem mq_56 : ∀ w ∈ wsR56, w ∈ wsL_law := fun _ h => mq_55 _ (List.mem_append_right _ h)
theorem mr_56 : ∀ w ∈ wsL_law_r56, w ∈ wsL_law := fun _ h => mq_56 _ (List.mem_append_left _ h)
def wsR57 : List Cond := wsL_law_r57 ++ (wsL_law_r58 ++ (wsL_law_r59 ++ (wsL_law_r60 ++ (wsL_law_r61 ++ (wsL_law_r62 ++ (wsL_law_r63 ++ (wsL_law_r64 ++ (wsL_law_r65 ++ (wsL_law_r66 ++ (wsL_law_r67))))))))))
theorem mq_57 : ∀ w ∈ wsR57, w ∈ wsL_law := fun _ h => mq_56 _ (List.mem_append_right _ h)
theorem mr_57 : ∀ w ∈ wsL_law_r57, w ∈ wsL_law := fun _ h => mq_57 _ (List.mem_append_left _ h)
def wsR58 : List Cond := wsL_law_r58 ++ (wsL_law_r59 ++ (wsL_law_r60 ++ (wsL_law_r61 ++ (wsL_law_r62 ++ (wsL_law_r63 ++ (wsL_law_r64 ++ (wsL_law_r65 ++ (wsL_law_r66 ++ (wsL_law_r67)))))))))
theorem mq_58 : ∀ w ∈ wsR58, w ∈ wsL_law := fun _ h => mq_57 _ (List.mem_append_right _ h)
theorem mr_58 : ∀ w ∈ wsL_law_r58, w ∈ wsL_law := fun _ h => mq_58 _ (List.mem_append_left _ h)
def wsR59 : List Cond := wsL_law_r59 ++ (wsL_law_r60 ++ (wsL_law_r61 ++ (wsL_law_r62 ++ (wsL_law_r63 ++ (wsL_law_r64 ++ (wsL_law_r65 ++ (wsL_law_r66 ++ (wsL_law_r67))))))))
theorem mq_59 : ∀ w ∈ wsR59, w ∈ wsL_law := fun _ h => mq_58 _ (List.mem_append_right _ h)
theorem mr_59 : ∀ w ∈ wsL_law_r59, w ∈ wsL_law := fun _ h => mq_59 _ (List.mem_append_left _ h)
def wsR60 : List Cond := wsL_law_r60 ++ (wsL_law_r61 ++ (wsL_law_r62 ++ (wsL_law_r63 ++ (wsL_law_r64 ++ (wsL_law_r65 ++ (wsL_law_r66 ++ (wsL_law_r67)))))))
theorem mq_60 : ∀ w ∈ wsR60, w ∈ wsL_law := fun _ h => mq_59 _ (List.mem_append_right _ h)
theorem mr_60 : ∀ w ∈ wsL_law_r60, w ∈ wsL_law := fun _ h => mq_60 _ (List.mem_append_left _ h)
def wsR61 : List Cond := wsL_law_r61 ++ (wsL_law_r62 ++ (wsL_law_r63 ++ (wsL_law_r64 ++ (wsL_law_r65 ++ (wsL_law_r66 ++ (wsL_law_r67))))))
theorem mq_61 : ∀ w ∈ wsR61, w ∈ wsL_law := fun _ h => mq_60 _ (List.mem_append_right _ h)
theorem mr_61 : ∀ w ∈ wsL_law_r61, w ∈ wsL_law := fun _ h => mq_61 _ (List.mem_append_left _ h)
def wsR62 : List Cond := wsL_law_r62 ++ (wsL_law_r63 ++ (wsL_law_r64 ++ (wsL_law_r65 ++ (wsL_law_r66 ++ (wsL_law_r67)))))
theorem mq_62 : ∀ w ∈ wsR62, w ∈ wsL_law := fun _ h => mq_61 _ (List.mem_append_right _ h)
theorem mr_62 : ∀ w ∈ wsL_law_r62, w ∈ wsL_law := fun _ h => mq_62 _ (List.mem_append_left _ h)
def wsR63 : List Cond := wsL_law_r63 ++ (wsL_law_r64 ++ (wsL_law_r65 ++ (wsL_law_r66 ++ (wsL_law_r67))))
theorem mq_63 : ∀ w ∈ wsR63, w ∈ wsL_law := fun _ h => mq_62 _ (List.mem_append_right _ h)
theorem mr_63 : ∀ w ∈ wsL_law_r63, w ∈ wsL_law := fun _ h => mq_63 _ (List.mem_append_left _ h)
def wsR64 : List Cond := wsL_law_r64 ++ (wsL_law_r65 ++ (wsL_law_r66 ++ (wsL_law_r67)))
theorem mq_64 : ∀ w ∈ wsR64, w ∈ wsL_law := fun _ h => mq_63 _ (List.mem_append_right _ h)
theorem mr_64 : ∀ w ∈ wsL_law_r64, w ∈ wsL_law := fun _ h => mq_64 _ (List.mem_append_left _ h)
def wsR65 : List Cond := wsL_law_r65 ++ (wsL_law_r66 ++ (wsL_law_r67))
theorem mq_65 : ∀ w ∈ wsR65, w ∈ wsL_law := fun _ h => mq_64 _ (List.mem_append_right _ h)
theorem mr_65 : ∀ w ∈ wsL_law_r65, w ∈ wsL_law := fun _ h => mq_65 _ (List.mem_append_left _ h)
def wsR66 : List Cond := wsL_law_r66 ++ (wsL_law_r67)
theorem mq_66 : ∀ w ∈ wsR66, w ∈ wsL_law := fun _ h => mq_65 _ (List.mem_append_right _ h)
theorem mr_66 : ∀ w ∈ wsL_law_r66, w ∈ wsL_law := fun _ h => mq_66 _ (List.mem_append_left _ h)
def wsR67 : List Cond := wsL_law_r67
theorem mq_67 : ∀ w ∈ wsR67, w ∈ wsL_law := fun _ h => mq_66 _ (List.mem_append_right _ h)
theorem mr_67 : ∀ w ∈ wsL_law_r67, w ∈ wsL_law := fun _ h => mq_67 _ h
/-! the classes whose objects the worlds hold, by the numbers of their printed names -/
abbrev classes : List vw_C := [(RX0, TX0, 9), (RX1, TX1, 5), (RX2, TX2, 8), (RX3, TX3, 19), (RX4, TX4, 12), (RX5, TX5, 3), (RX6, TX6, 2), (RX7, TX7, 3), (RX8, TX8, 8), (RX9, TX9, 4), (RX10, TX10, 12), (RX11, TX11, 17), (RX12, TX12, 75)]
theorem cls_in : ∀ (ci : Nat) (q : vw_C), classes[ci]? = some q → ∀ w ∈ u_ws q.1 q.2.1 q.2.2, w ∈ wsL_law := by
  intro ci q h
  match ci, h with
  | 0, h => cases h; exact inlX0
  | 1, h => cases h; exact inlX1
  | 2, h => cases h; exact inlX2
  | 3, h => cases h; exact inlX3
  | 4, h => cases h; exact inlX4
  | 5, h => cases h; exact inlX5
  | 6, h => cases h; exact inlX6
  | 7, h => cases h; exact inlX7
  | 8, h => cases h; exact inlX8
  | 9, h => cases h; exact inlX9
  | 10, h => cases h; exact inlX10
  | 11, h => cases h; exact inlX11
  | 12, h => cases h; exact inlX12
  | k + 13, h => exact absurd h (by simp [classes])
theorem cls_ty : ∀ (ci : Nat) (q : vw_C), classes[ci]? = some q → ∃ ty : Nat → FieldType, ∀ k, k < q.2.2 → parseFieldDescriptor (q.2.1 k).2.2.1 = some (ty k) := by
  intro ci q h
  match ci, h with
  | 0, h => cases h; exact ⟨tyX0, tyX0_ok⟩
  | 1, h => cases h; exact ⟨tyX1, tyX1_ok⟩
  | 2, h => cases h; exact ⟨tyX2, tyX2_ok⟩
  | 3, h => cases h; exact ⟨tyX3, tyX3_ok⟩
  | 4, h => cases h; exact ⟨tyX4, tyX4_ok⟩
  | 5, h => cases h; exact ⟨tyX5, tyX5_ok⟩
  | 6, h => cases h; exact ⟨tyX6, tyX6_ok⟩
  | 7, h => cases h; exact ⟨tyX7, tyX7_ok⟩
  | 8, h => cases h; exact ⟨tyX8, tyX8_ok⟩
  | 9, h => cases h; exact ⟨tyX9, tyX9_ok⟩
  | 10, h => cases h; exact ⟨tyX10, tyX10_ok⟩
  | 11, h => cases h; exact ⟨tyX11, tyX11_ok⟩
  | 12, h => cases h; exact ⟨tyX12, tyX12_ok⟩
  | k + 13, h => exact absurd h (by simp [classes])
theorem cls_nm : ∀ (ci : Nat) (q : vw_C), classes[ci]? = some q → ∀ a, a < q.2.2 → ∀ b, b < q.2.2 → a ≠ b → (q.2.1 a).2.1 ≠ (q.2.1 b).2.1 := by
  intro ci q h
  match ci, h with
  | 0, h => cases h; exact nmX0
  | 1, h => cases h; exact nmX1
  | 2, h => cases h; exact nmX2
  | 3, h => cases h; exact nmX3
  | 4, h => cases h; exact nmX4
  | 5, h => cases h; exact nmX5
  | 6, h => cases h; exact nmX6
  | 7, h => cases h; exact nmX7
  | 8, h => cases h; exact nmX8
  | 9, h => cases h; exact nmX9
  | 10, h => cases h; exact nmX10
  | 11, h => cases h; exact nmX11
  | 12, h => cases h; exact nmX12
  | k + 13, h => exact absurd h (by simp [classes])
theorem gw_1 : wsL_law_r1.all goodWord = true := by decide +kernel
theorem gw_2 : wsL_law_r2.all goodWord = true := by decide +kernel
theorem gw_3 : wsL_law_r3.all goodWord = true := by decide +kernel
theorem gw_4 : wsL_law_r4.all goodWord = true := by decide +kernel
theorem gw_5 : wsL_law_r5.all goodWord = true := by decide +kernel
theorem gw_6 : wsL_law_r6.all goodWord = true := by decide +kernel
theorem gw_7 : wsL_law_r7.all goodWord = true := by decide +kernel
theorem gw_8 : wsL_law_r8.all goodWord = true := by decide +kernel
theorem gw_9 : wsL_law_r9.all goodWord = true := by decide +kernel
theorem gw_10 : wsL_law_r10.all goodWord = true := by decide +kernel
theorem gw_11 : wsL_law_r11.all goodWord = true := by decide +kernel
theorem gw_12 : wsL_law_r12.all goodWord = true := by decide +kernel
theorem gw_13 : wsL_law_r13.all goodWord = true := by decide +kernel
theorem gw_14 : wsL_law_r14.all goodWord = true := by decide +kernel
theorem gw_15 : wsL_law_r15.all goodWord = true := by decide +kernel
theorem gw_16 : wsL_law_r16.all goodWord = true := by decide +kernel
theorem gw_17 : wsL_law_r17.all goodWord = true := by decide +kernel
theorem gw_18 : wsL_law_r18.all goodWord = true := by decide +kernel
theorem gw_19 : wsL_law_r19.all goodWord = true := by decide +kernel
theorem gw_20 : wsL_law_r20.all goodWord = true := by decide +kernel
theorem gw_21 : wsL_law_r21.all goodWord = true := by decide +kernel
theorem gw_22 : wsL_law_r22.all goodWord = true := by decide +kernel
theorem gw_23 : wsL_law_r23.all goodWord = true := by decide +kernel
theorem gw_24 : wsL_law_r24.all goodWord = true := by decide +kernel
theorem gw_25 : wsL_law_r25.all goodWord = true := by decide +kernel
theorem gw_26 : wsL_law_r26.all goodWord = true := by decide +kernel
theorem gw_27 : wsL_law_r27.all goodWord = true := by decide +kernel
theorem gw_28 : wsL_law_r28.all goodWord = true := by decide +kernel
theorem gw_29 : wsL_law_r29.all goodWord = true := by decide +kernel
theorem gw_30 : wsL_law_r30.all goodWord = true := by decide +kernel
theorem gw_31 : wsL_law_r31.all goodWord = true := by decide +kernel
theorem gw_32 : wsL_law_r32.all goodWord = true := by decide +kernel
theorem gw_33 : wsL_law_r33.all goodWord = true := by decide +kernel
theorem gw_34 : wsL_law_r34.all goodWord = true := by decide +kernel
theorem gw_35 : wsL_law_r35.all goodWord = true := by decide +kernel
theorem gw_36 : wsL_law_r36.all goodWord = true := by decide +kernel
theorem gw_37 : wsL_law_r37.all goodWord = true := by decide +kernel
theorem gw_38 : wsL_law_r38.all goodWord = true := by decide +kernel
theorem gw_39 : wsL_law_r39.all goodWord = true := by decide +kernel
theorem gw_40 : wsL_law_r40.all goodWord = true := by decide +kernel
theorem gw_41 : wsL_law_r41.all goodWord = true := by decide +kernel
theorem gw_42 : wsL_law_r42.all goodWord = true := by decide +kernel
theorem gw_43 : wsL_law_r43.all goodWord = true := by decide +kernel
theorem gw_44 : wsL_law_r44.all goodWord = true := by decide +kernel
theorem gw_45 : wsL_law_r45.all goodWord = true := by decide +kernel
theorem gw_46 : wsL_law_r46.all goodWord = true := by decide +kernel
theorem gw_47 : wsL_law_r47.all goodWord = true := by decide +kernel
theorem gw_48 : wsL_law_r48.all goodWord = true := by decide +kernel
theorem gw_49 : wsL_law_r49.all goodWord = true := by decide +kernel
theorem gw_50 : wsL_law_r50.all goodWord = true := by decide +kernel
theorem gw_51 : wsL_law_r51.all goodWord = true := by decide +kernel
theorem gw_52 : wsL_law_r52.all goodWord = true := by decide +kernel
theorem gw_53 : wsL_law_r53.all goodWord = true := by decide +kernel
theorem gw_54 : wsL_law_r54.all goodWord = true := by decide +kernel
theorem gw_55 : wsL_law_r55.all goodWord = true := by decide +kernel
theorem gw_56 : wsL_law_r56.all goodWord = true := by decide +kernel
theorem gw_57 : wsL_law_r57.all goodWord = true := by decide +kernel
theorem gw_58 : wsL_law_r58.all goodWord = true := by decide +kernel
theorem gw_59 : wsL_law_r59.all goodWord = true := by decide +kernel
theorem gw_60 : wsL_law_r60.all goodWord = true := by decide +kernel
theorem gw_61 : wsL_law_r61.all goodWord = true := by decide +kernel
theorem gw_62 : wsL_law_r62.all goodWord = true := by decide +kernel
theorem gw_63 : wsL_law_r63.all goodWord = true := by decide +kernel
theorem gw_64 : wsL_law_r64.all goodWord = true := by decide +kernel
theorem gw_65 : wsL_law_r65.all goodWord = true := by decide +kernel
theorem gw_66 : wsL_law_r66.all goodWord = true := by decide +kernel
theorem gw_67 : wsL_law_r67.all goodWord = true := by decide +kernel
theorem gu_0 : wsX00.all goodWord = true := by decide +kernel
theorem gu_1 : wsX10.all goodWord = true := by decide +kernel
theorem gu_2 : wsX20.all goodWord = true := by decide +kernel
theorem gu_3 : wsX30.all goodWord = true := by decide +kernel
theorem gu_4 : wsX40.all goodWord = true := by decide +kernel
theorem gu_5 : wsX50.all goodWord = true := by decide +kernel
theorem gu_6 : wsX60.all goodWord = true := by decide +kernel
theorem gu_7 : wsX70.all goodWord = true := by decide +kernel
theorem gu_8 : wsX80.all goodWord = true := by decide +kernel
theorem gu_9 : wsX90.all goodWord = true := by decide +kernel
theorem gu_10 : wsX100.all goodWord = true := by decide +kernel
theorem gu_11 : wsX110.all goodWord = true := by decide +kernel
theorem gu_12 : wsX120.all goodWord = true := by decide +kernel
theorem all_app {a b : List Cond} (ha : a.all goodWord = true) (hb : b.all goodWord = true) : (a ++ b).all goodWord = true := by rw [List.all_append, ha, hb]; rfl
theorem wL_good : wsL_law.all goodWord = true := all_app (all_app (all_app (all_app (all_app (all_app (all_app (all_app (all_app (all_app (all_app (all_app (all_app (all_app (all_app gw_1 (all_app gw_2 (all_app gw_3 (all_app gw_4 (all_app gw_5 (all_app gw_6 (all_app gw_7 (all_app gw_8 (all_app gw_9 (all_app gw_10 (all_app gw_11 (all_app gw_12 (all_app gw_13 (all_app gw_14 (all_app gw_15 (all_app gw_16 (all_app gw_17 (all_app gw_18 (all_app gw_19 (all_app gw_20 (all_app gw_21 (all_app gw_22 (all_app gw_23 (all_app gw_24 (all_app gw_25 (all_app gw_26 (all_app gw_27 (all_app gw_28 (all_app gw_29 (all_app gw_30 (all_app gw_31 (all_app gw_32 (all_app gw_33 (all_app gw_34 (all_app gw_35 (all_app gw_36 (all_app gw_37 (all_app gw_38 (all_app gw_39 (all_app gw_40 (all_app gw_41 (all_app gw_42 (all_app gw_43 (all_app gw_44 (all_app gw_45 (all_app gw_46 (all_app gw_47 (all_app gw_48 (all_app gw_49 (all_app gw_50 (all_app gw_51 (all_app gw_52 (all_app gw_53 (all_app gw_54 (all_app gw_55 (all_app gw_56 (all_app gw_57 (all_app gw_58 (all_app gw_59 (all_app gw_60 (all_app gw_61 (all_app gw_62 (all_app gw_63 (all_app gw_64 (all_app gw_65 (all_app gw_66 (gw_67))))))))))))))))))))))))))))))))))))))))))))))))))))))))))))))))))) gu_11) gu_12) gu_10) gu_4) gu_3) gu_6) gu_9) gu_7) gu_1) gu_2) gu_0) gu_8) gu_5) rfl
end
section
/-! MY BASE: a method's context, its world, contracts of one form, and rows over them -/
theorem wL_gin : GoodIn wsL_law wsL_law := fun w h => ⟨h, good_of_word (List.all_eq_true.mp wL_good w h)⟩
theorem wL_code {c : Cond} (h : c ∈ wsL_law) : GoodIn wsL_law (c :: wsL_law) := fun w hw => (List.mem_cons.mp hw).elim (fun e => by rw [e]; exact wL_gin c h) (fun h => wL_gin w h)
/-- what isn't a steady word: the call of a nest mate's private method, the class of arrays of Worlds -/
def Nst (U : State) : Prop := va_Nw (.methodLinkNest RX10 66 yX11_isWeek RX11) U ∧ va_AO "LuckLinks$World" U
theorem Nst.warm {s U : State} (hW : s.WarmedH U.vm) (h : Nst s) : Nst U := ⟨va_Nw.warmM hW h.1, va_AO.moved hW.alike h.2⟩
theorem Nst.same {u U : State} (h : u.vm = U.vm) (hZ : Nst u) : Nst U := ⟨va_Nw.same rfl h hZ.1, va_AO.moved (by rw [← h]; exact Vm.Alike.refl _) hZ.2⟩
/-- the machine at a method of mine: code, words, known classes -/
def Cx (p : Program) (s : State) (m : MethodId) (args : Array Value) (c : Code) (cc : ByteArray) (nL : Nat) (own : String) (D : va_G) (tys : List (ClassId × FieldType)) : Prop :=
  p.tables.exec = Jvm.exec ∧ c.code = cc ∧ c.maxLocals = nL ∧ s.vm.findClass own = some m.cls ∧ (∀ w ∈ wsL_law, w.before args s = true) ∧ va_K D classes tys s ∧ Nst s
/-- the world: its cells, apart, in A; outside A all is as it was -/
def Wd (D : va_G) (A : Nat → Prop) (s : State) (ws : va_W) (H : Heap) (locs : List Loc) : Prop :=
  va_P D classes ws H ∧ va_D A ws ∧ va_S A s.heap H locs ∧ ∀ q, s.heap.size ≤ q → A q
def Pre (D : va_G) (tys : List (ClassId × FieldType)) (wc : va_W) (sz : Nat) : State → Prop := fun U =>
  U.heap.size = sz ∧ va_P D classes wc U.heap ∧ va_K D classes tys U ∧ va_D (fun _ => True) wc ∧ Nst U
def Aft (D : va_G) (A : Nat → Prop) (w1 : va_W) : State → Prop := fun t => va_P D classes w1 t.heap ∧ va_D A w1
theorem Pre.blind {D : va_G} {tys : List (ClassId × FieldType)} {wc : va_W} {sz : Nat} {av : List Value} : FrameBlind (va_Pc av (Pre D tys wc sz)) :=
  fun _ U _ _ q => ⟨q.1, q.2.1, q.2.2.1, va_K.moved (u := U) (Vm.Alike.refl U.vm) q.2.2.2.1, q.2.2.2.2.1, Nst.same (u := U) rfl q.2.2.2.2.2⟩
theorem Pre.of {D : va_G} {tys : List (ClassId × FieldType)} {wc : va_W} {s U : State} {H : Heap} {A : Nat → Prop} (hP : va_P D classes wc H) (hD : va_D A wc) (hK : va_K D classes tys s ∧ Nst s) (hU : U.heap = H) (hW : s.WarmedH U.vm) : Pre D tys wc H.size U :=
  ⟨by rw [hU], by rw [hU]; exact hP, va_K.moved hW.alike hK.1, hD.weaken (fun _ _ _ _ => trivial), hK.2.warm hW⟩
/-- contracts: an int (or boolean ..), a long, nothing -/
def CI (l : Launch) (D : va_G) (tys : List (ClassId × FieldType)) (y : MethodName) (cc : ByteArray) (maxL : Nat) (ret : Option FieldType) (rm : Room) (av : List Value) (wc : va_W) {S : Type} (post : Int32 → S → Prop) (w1 : S → va_W) : Prop :=
  ∀ sz : Nat, Met l y (.code y cc maxL ret :: wsL_law) rm (va_Pc av (Pre D tys wc sz)) (va_Qi post (fun u t => Aft D (va_A wc sz) (w1 u) t) (va_A wc sz)) rm.cells rm.slots (va_A wc sz)
def CL (l : Launch) (D : va_G) (tys : List (ClassId × FieldType)) (y : MethodName) (cc : ByteArray) (maxL : Nat) (rm : Room) (av : List Value) (wc : va_W) {S : Type} (post : Int64 → S → Prop) (w1 : S → va_W) : Prop :=
  ∀ sz : Nat, Met l y (.code y cc maxL (some .long) :: wsL_law) rm (va_Pc av (Pre D tys wc sz)) (va_Ql post (fun u t => Aft D (va_A wc sz) (w1 u) t) (va_A wc sz)) rm.cells rm.slots (va_A wc sz)
def CV (l : Launch) (D : va_G) (tys : List (ClassId × FieldType)) (y : MethodName) (cc : ByteArray) (maxL : Nat) (rm : Room) (av : List Value) (wc : va_W) {S : Type} (post : S → Prop) (w1 : S → va_W) : Prop :=
  ∀ sz : Nat, Met l y (.code y cc maxL none :: wsL_law) rm (va_Pc av (Pre D tys wc sz)) (va_Qv post (fun u t => Aft D (va_A wc sz) (w1 u) t) (va_A wc sz)) rm.cells rm.slots (va_A wc sz)
theorem body_of {l : Launch} {D : va_G} {tys : List (ClassId × FieldType)} {y : MethodName} {cc : ByteArray} {maxL : Nat} {ret : Option FieldType} {rm : Room} {av : List Value} {wc : va_W} {own : String} {sz : Nat} {Qc : (Nat → Prop) → Array Value → State → Outcome → State → Prop} (hy : plainName y.cls = true) (hown : y.cls = own) (hlen : (lg_sl av).length ≤ maxL)
    (body : ∀ (p : Program) (e : Env) (s : State) (m : MethodId) (below : List Frame) (meth : Method) (c : Code) (A : Nat → Prop) (ls : Array Slot), Cx p s m av.toArray c cc maxL own D tys → meth.sig.returnType = ret → meth.locks = false → meth.name = y.name → Wd D A s wc s.heap [] → lv_has ls maxL (lv_args 0 av) →
      W p l e rm s m av.toArray below meth c s.heap [] 0 0 (MQ below (Qc A) av.toArray s rm.cells rm.slots A) (F0 m 0 ls [])) :
    Met l y (.code y cc maxL ret :: wsL_law) rm (va_Pc av (Pre D tys wc sz)) (Qc (va_A wc sz)) rm.cells rm.slots (va_A wc sz) := by
  refine Met.ofW (cc := cc) (maxL := maxL) (ret := ret) hy rfl ?_
  intro p e s m args below meth c s₁ B hml hv
  obtain ⟨rfl, hsz, hP, hK, hD0, hN⟩ := hv
  have hts := atoms_spec (ws := .code y cc maxL ret :: wsL_law) B.pre
  have ho : s.vm.findClass own = some m.cls := by rw [← hown]; exact findClass_of_methodNamed B.named
  subst hsz
  rw [lg_entry_eq]
  exact body p e s m below meth c _ _ ⟨B.exec, B.bytes, hml, ho, fun w h => hts w (List.mem_cons_of_mem _ h), hK, hN⟩ B.returns B.notSynchronized (name_of_methodNamed B.named B.method).1
    ⟨hP, hD0.self, va_S.rf, fun q h => Or.inr h⟩ (lv_entry av hlen)
theorem i_lt {x y : Int32} (h : x < y) : x.toInt < y.toInt := Int32.lt_iff_toInt_lt.mp h
theorem i_le {x y : Int32} (h : x ≤ y) : x.toInt ≤ y.toInt := Int32.le_iff_toInt_le.mp h
theorem i_nlt {x y : Int32} (h : ¬ x < y) : y.toInt ≤ x.toInt := by
  have h2 := mt Int32.lt_iff_toInt_lt.mpr h
  omega
theorem i_nle {x y : Int32} (h : ¬ x ≤ y) : y.toInt < x.toInt := by
  have h2 := mt Int32.le_iff_toInt_le.mpr h
  omega
theorem i_eq {x y : Int32} (h : x = y) : x.toInt = y.toInt := by rw [h]
theorem i_ne {x y : Int32} (h : ¬ x = y) : x.toInt ≠ y.toInt := fun h2 => h (Int32.toInt_inj.mp h2)
theorem i_nat {x : Int32} (h : 0 ≤ x.toInt) : x = nI x.toInt.toNat := by
  apply Int32.toInt_inj.mp
  have h2 := Int32.toInt_lt x
  rw [nI_toInt (by omega)]
  omega
theorem i_ex {x : Int32} (n : Nat) (h0 : 0 ≤ x.toInt) (h1 : x.toInt < n) : ∃ j : Nat, j < n ∧ x = nI j := ⟨x.toInt.toNat, by omega, i_nat h0⟩
theorem x_sub {D : va_G} {A : Nat → Prop} {s : State} {ws ws' : va_W} {H : Heap} {locs : List Loc} (X : Wd D A s ws H locs) (is : List Nat) (hnd : va_nd is = true) (hs : is.map (fun i => ws[i]?) = ws'.map some) : Wd D A s ws' H locs :=
  ⟨X.1.sub is (by
    have := congrArg (List.filterMap id) hs
    simpa [List.filterMap_map, Function.comp_def] using this), X.2.1.sub is hnd hs, X.2.2⟩
theorem arr_eq (cA : ClassId) (n : Nat) {f g : Nat → Int32} (h : ∀ j, j < n → f j = g j) : vp_cell cA (n, .inl f) = vp_cell cA (n, .inl g) := by
  rw [vp_cell_i, vp_cell_i]
  unfold arrV
  congr 1
  congr 1
  funext j
  show Value.int (f j.val) = Value.int (g j.val)
  rw [h j.val j.isLt]
theorem arr_eql (cA : ClassId) (n : Nat) {f g : Nat → Int64} (h : ∀ j, j < n → f j = g j) : vp_cell cA (n, .inr (.inl f)) = vp_cell cA (n, .inr (.inl g)) := by
  rw [vp_cell_l, vp_cell_l]
  unfold arrV
  congr 1
  congr 1
  funext j
  show Value.long (f j.val) = Value.long (g j.val)
  rw [h j.val j.isLt]
theorem x_cng {D : va_G} {A : Nat → Prop} {s : State} {ws : va_W} {H : Heap} {locs : List Loc} (X : Wd D A s ws H locs) (q0 : Nat) {a : Nat} {cA : ClassId} {x y : vp_A} (ha : ws[q0]? = some (a, .inl (cA, x))) (h : vp_cell cA x = vp_cell cA y) : Wd D A s (ws.set q0 (a, .inl (cA, y))) H locs :=
  ⟨X.1.set X.2.1 ha (by show H[a]? = some (vp_cell cA y); rw [← h]; exact X.1 q0 _ ha) (fun _ _ => rfl), X.2.1.set ha, X.2.2⟩
section ROWS
variable {p : Program} {l : Launch} {e : Env} {R : Room} {s : State} {m : MethodId} {args : Array Value} {below : List Frame} {meth : Method} {c : Code} {H : Heap} {locs : List Loc} {cells slots : Nat} {Q : State → Prop}
variable {cc : ByteArray} {pc nL : Nat} {ls : Array Slot} {rest : List Value} {D : va_G} {A : Nat → Prop} {a : Nat} {tys : List (ClassId × FieldType)} {ws : va_W} {own : String}
theorem x_eqi {x y : Int32} (h : x = y) (k : W p l e R s m args below meth c H locs cells slots Q (F0 m pc ls (.int y :: rest))) : W p l e R s m args below meth c H locs cells slots Q (F0 m pc ls (.int x :: rest)) := h ▸ k
theorem x_eql {x y : Int64} (h : x = y) (k : W p l e R s m args below meth c H locs cells slots Q (F0 m pc ls (.long y :: rest))) : W p l e R s m args below meth c H locs cells slots Q (F0 m pc ls (.long x :: rest)) := h ▸ k
theorem x_get (C : Cx p s m args c cc nL own D tys) (X : Wd D A s ws H locs) (q0 : Nat) {ci : Nat} {fs : List Value} (he : ws[q0]? = some (a, .inr (ci, fs))) {Cn : String} {T : u_T} {N : Nat} (hc : classes[ci]? = some (Cn, T, N)) (k : Nat) (hk : k < N) {index : Nat} {f d : String} (hw : Cond.fieldLink own index (T k).1 f d ∈ wsL_law) (hf : (T k).2.1 = f) (hd : (T k).2.2.1 = d) {v : Value} (hv : fs[k]? = some v) (hdg : decode cc pc = .ok (.getfield index, 3))
    (kk : W p l e R s m args below meth c H locs cells slots Q (F0 m (pc + 3) ls (v :: rest))) : W p l e R s m args below meth c H locs cells slots Q (F0 m pc ls (.ref a :: rest)) := by
  subst hf; subst hd
  exact va_get C.1 C.2.1 C.2.2.2.2.1 (cls_in ci _ hc) C.2.2.2.1 C.2.2.2.2.2.1 X.1 q0 he hc k hk (C.2.2.2.2.1 _ hw) (fun _ h => h) hv hdg kk
theorem x_put (C : Cx p s m args c cc nL own D tys) (X : Wd D A s ws H locs) (q0 : Nat) {ci : Nat} {fs : List Value} (he : ws[q0]? = some (a, .inr (ci, fs))) {Cn : String} {T : u_T} {N : Nat} (hc : classes[ci]? = some (Cn, T, N)) (k : Nat) (hk : k < N) {index : Nat} {f d : String} (hw : Cond.fieldLink own index (T k).1 f d ∈ wsL_law) (hf : (T k).2.1 = f) (hd : (T k).2.2.1 = d) (hfin : (T k).2.2.2 = false) {ty : FieldType} {v : Value} (hty : parseFieldDescriptor (T k).2.2.1 = some ty) (hn : narrow ty v = v) (hfit : fits ty v = true) (hl : k < fs.length) (hdg : decode cc pc = .ok (.putfield index, 3))
    (kk : ∀ (H1 : Heap) (locs1 : List Loc), Wd D A s (ws.set q0 (a, .inr (ci, fs.set k v))) H1 locs1 → W p l e R s m args below meth c H1 locs1 cells slots Q (F0 m (pc + 3) ls rest)) : W p l e R s m args below meth c H locs cells slots Q (F0 m pc ls (v :: .ref a :: rest)) := by
  subst hf; subst hd
  obtain ⟨ty0, h0⟩ := cls_ty ci _ hc
  exact va_put C.1 C.2.1 C.2.2.2.2.1 (cls_in ci _ hc) ty0 h0 (cls_nm ci _ hc) C.2.2.2.1 C.2.2.2.2.2.1 X.1 X.2.1 X.2.2.1 q0 he hc k hk (C.2.2.2.2.1 _ hw) (fun _ h => h) hfin hty hn hfit hl hdg (fun H1 L1 a1 a2 a3 => kk H1 L1 ⟨a1, a2, a3, X.2.2.2⟩)
theorem x_putF (C : Cx p s m args c cc nL own D tys) (X : Wd D A s ws H locs) (q0 : Nat) {ci : Nat} {fs : List Value} (he : ws[q0]? = some (a, .inr (ci, fs))) {Cn : String} {T : u_T} {N : Nat} (hc : classes[ci]? = some (Cn, T, N)) (k : Nat) (hk : k < N) {index : Nat} {f d : String} (hw : Cond.fieldLink own index (T k).1 f d ∈ wsL_law) (hf : (T k).2.1 = f) (hd : (T k).2.2.1 = d) (hfin : (T k).2.2.2 = true) (hin2 : meth.name = "<init>") (hdecl : (T k).1 = own) {ty : FieldType} {v : Value} (hty : parseFieldDescriptor (T k).2.2.1 = some ty) (hn : narrow ty v = v) (hfit : fits ty v = true) (hl : k < fs.length) (hdg : decode cc pc = .ok (.putfield index, 3))
    (kk : ∀ (H1 : Heap) (locs1 : List Loc), Wd D A s (ws.set q0 (a, .inr (ci, fs.set k v))) H1 locs1 → W p l e R s m args below meth c H1 locs1 cells slots Q (F0 m (pc + 3) ls rest)) : W p l e R s m args below meth c H locs cells slots Q (F0 m pc ls (v :: .ref a :: rest)) := by
  subst hf; subst hd
  obtain ⟨ty0, h0⟩ := cls_ty ci _ hc
  exact va_putF C.1 C.2.1 C.2.2.2.2.1 (cls_in ci _ hc) ty0 h0 (cls_nm ci _ hc) C.2.2.2.1 C.2.2.2.2.2.1 X.1 X.2.1 X.2.2.1 q0 he hc k hk (C.2.2.2.2.1 _ hw) (fun _ h => h) hfin hin2 hdecl hty hn hfit hl hdg (fun H1 L1 a1 a2 a3 => kk H1 L1 ⟨a1, a2, a3, X.2.2.2⟩)
theorem x_new (C : Cx p s m args c cc nL own D tys) (X : Wd D A s ws H locs) {Cn : String} {T : u_T} {N ci index : Nat} (hc : classes[ci]? = some (Cn, T, N)) (ty : Nat → FieldType) (hty : ∀ k, k < N → parseFieldDescriptor (T k).2.2.1 = some (ty k)) (hw1 : Cond.classLink own index Cn ∈ wsL_law) (hw2 : Cond.instantiable Cn N ∈ wsL_law) (hw3 : Cond.initialized Cn ∈ wsL_law) {fs : List Value} (hfs : ∀ j, j < N → defaultValue (ty j) = vp_V fs j) (hcells : cells + 1 ≤ R.cells) (hslots : slots + N ≤ R.slots) (hdg : decode cc pc = .ok (.new index, 3))
    (kk : ∀ (q : Nat) (H1 : Heap), Wd D A s (ws ++ [(q, .inr (ci, fs))]) H1 locs → W p l e R s m args below meth c H1 locs (cells + 1) (slots + N) Q (F0 m (pc + 3) ls (.ref q :: rest))) : W p l e R s m args below meth c H locs cells slots Q (F0 m pc ls rest) :=
  va_new C.1 C.2.1 C.2.2.2.2.1 (cls_in ci _ hc) ty hty C.2.2.2.1 (C.2.2.2.2.1 _ hw1) (C.2.2.2.2.1 _ hw2) (C.2.2.2.2.1 _ hw3) C.2.2.2.2.2.1 X.1 X.2.1 X.2.2.1 X.2.2.2 hc hfs hcells hslots hdg (fun q H1 a1 a2 a3 => kk q H1 ⟨a1, a2, a3, X.2.2.2⟩)
theorem x_newa (C : Cx p s m args c cc nL own D tys) (X : Wd D A s ws H locs) {atype : ArrayType} {ty : FieldType} (hty : newarray.typeOf atype = ty) (hw : Cond.arrayClass ty ∈ wsL_law) (t0 : Nat) {cI : ClassId} (ht : tys[t0]? = some (cI, ty)) (hprim : refKind ty = false)
    {n : Int32} {N' : Nat} {a0 : vp_A} (ha : ∀ cA : ClassId, vp_cell cA a0 = arrV cA N' (fun _ => defaultValue ty)) (hn : ¬ n < 0) (hN : n.toNatClampNeg = N') (hbytes : N' * componentBytes ty ≤ 536870912) (hcells : cells + 1 ≤ R.cells) (hslots : slots + N' ≤ R.slots) (hdg : decode cc pc = .ok (.newarray atype, 2))
    (kk : ∀ (q : Nat) (H1 : Heap), Wd D A s (ws ++ [(q, .inl (cI, a0))]) H1 locs → W p l e R s m args below meth c H1 locs (cells + 1) (slots + N') Q (F0 m (pc + 2) ls (.ref q :: rest))) : W p l e R s m args below meth c H locs cells slots Q (F0 m pc ls (.int n :: rest)) := by
  refine va_newa (ty := ty) C.1 C.2.1 (by rw [hty]; exact C.2.2.2.2.1 _ hw) hty C.2.2.2.2.2.1 X.1 X.2.1 X.2.2.1 X.2.2.2 ha hn hN hbytes hcells hslots hdg (fun q cA H1 hK1 a1 a2 a3 => ?_)
  have e1 := (hK1.2 tys.length (cA, ty) (by simp)).2
  have e0 := (C.2.2.2.2.2.1.2 t0 _ ht).2
  have ec : cA = cI := by
    cases ty <;> first | exact Option.some.inj (Eq.trans (Eq.symm e1) e0) | exact absurd hprim (by simp [refKind])
  subst ec
  exact kk q H1 ⟨a1, a2, a3, X.2.2.2⟩
theorem x_iald (C : Cx p s m args c cc nL own D tys) (X : Wd D A s ws H locs) (q0 t0 : Nat) {cA : ClassId} {n : Nat} {f : Nat → Int32} (ha : ws[q0]? = some (a, .inl (cA, n, .inl f))) (ht : tys[t0]? = some (cA, .int)) {i : Int32} {j : Nat} (hi : i.toNatClampNeg = j) (hin : vp_in i n) {v : Int32} (hv : f j = v) (hdg : decode cc pc = .ok (.iaload, 1))
    (kk : W p l e R s m args below meth c H locs cells slots Q (F0 m (pc + 1) ls (.int v :: rest))) : W p l e R s m args below meth c H locs cells slots Q (F0 m pc ls (.int i :: .ref a :: rest)) := by
  subst hv; subst hi
  exact va_iald C.1 C.2.1 C.2.2.2.2.2.1 X.1 q0 t0 ha ht hin hdg kk
theorem x_bald (C : Cx p s m args c cc nL own D tys) (X : Wd D A s ws H locs) (q0 t0 : Nat) {cA : ClassId} {n : Nat} {f : Nat → Int32} (ha : ws[q0]? = some (a, .inl (cA, n, .inl f))) (ht : tys[t0]? = some (cA, .byte)) {i : Int32} {j : Nat} (hi : i.toNatClampNeg = j) (hin : vp_in i n) {v : Int32} (hv : f j = v) (hdg : decode cc pc = .ok (.baload, 1))
    (kk : W p l e R s m args below meth c H locs cells slots Q (F0 m (pc + 1) ls (.int v :: rest))) : W p l e R s m args below meth c H locs cells slots Q (F0 m pc ls (.int i :: .ref a :: rest)) := by
  subst hv; subst hi
  exact va_bald C.1 C.2.1 C.2.2.2.2.2.1 X.1 q0 t0 ha ht hin hdg kk
theorem x_zald (C : Cx p s m args c cc nL own D tys) (X : Wd D A s ws H locs) (q0 t0 : Nat) {cA : ClassId} {n : Nat} {f : Nat → Int32} (ha : ws[q0]? = some (a, .inl (cA, n, .inl f))) (ht : tys[t0]? = some (cA, .boolean)) {i : Int32} {j : Nat} (hi : i.toNatClampNeg = j) (hin : vp_in i n) {v : Int32} (hv : f j = v) (hdg : decode cc pc = .ok (.baload, 1))
    (kk : W p l e R s m args below meth c H locs cells slots Q (F0 m (pc + 1) ls (.int v :: rest))) : W p l e R s m args below meth c H locs cells slots Q (F0 m pc ls (.int i :: .ref a :: rest)) := by
  subst hv; subst hi
  exact va_zald C.1 C.2.1 C.2.2.2.2.2.1 X.1 q0 t0 ha ht hin hdg kk
theorem x_lald (C : Cx p s m args c cc nL own D tys) (X : Wd D A s ws H locs) (q0 t0 : Nat) {cA : ClassId} {n : Nat} {f : Nat → Int64} (ha : ws[q0]? = some (a, .inl (cA, n, .inr (.inl f)))) (ht : tys[t0]? = some (cA, .long)) {i : Int32} {j : Nat} (hi : i.toNatClampNeg = j) (hin : vp_in i n) {v : Int64} (hv : f j = v) (hdg : decode cc pc = .ok (.laload, 1))
    (kk : W p l e R s m args below meth c H locs cells slots Q (F0 m (pc + 1) ls (.long v :: rest))) : W p l e R s m args below meth c H locs cells slots Q (F0 m pc ls (.int i :: .ref a :: rest)) := by
  subst hv; subst hi
  exact va_lald C.1 C.2.1 C.2.2.2.2.2.1 X.1 q0 t0 ha ht hin hdg kk
theorem x_iast (C : Cx p s m args c cc nL own D tys) (X : Wd D A s ws H locs) (q0 t0 : Nat) {cA : ClassId} {n : Nat} {f : Nat → Int32} (ha : ws[q0]? = some (a, .inl (cA, n, .inl f))) (ht : tys[t0]? = some (cA, .int)) {i : Int32} {x : Int32} {j : Nat} (hi : i.toNatClampNeg = j) (hin : vp_in i n) (hdg : decode cc pc = .ok (.iastore, 1))
    (kk : ∀ (H1 : Heap) (locs1 : List Loc), Wd D A s (ws.set q0 (a, .inl (cA, n, .inl (upd f j x)))) H1 locs1 → W p l e R s m args below meth c H1 locs1 cells slots Q (F0 m (pc + 1) ls rest)) : W p l e R s m args below meth c H locs cells slots Q (F0 m pc ls (.int x :: .int i :: .ref a :: rest)) := by
  subst hi
  exact va_iast C.1 C.2.1 C.2.2.2.2.2.1 X.1 X.2.1 X.2.2.1 q0 t0 ha ht hin hdg (fun H1 L1 a1 a2 a3 => kk H1 L1 ⟨a1, a2, a3, X.2.2.2⟩)
theorem x_bast (C : Cx p s m args c cc nL own D tys) (X : Wd D A s ws H locs) (q0 t0 : Nat) {cA : ClassId} {n : Nat} {f : Nat → Int32} (ha : ws[q0]? = some (a, .inl (cA, n, .inl f))) (ht : tys[t0]? = some (cA, .byte)) {i : Int32} {x : Int32} {j : Nat} (hi : i.toNatClampNeg = j) (hin : vp_in i n) (hdg : decode cc pc = .ok (.bastore, 1))
    (kk : ∀ (H1 : Heap) (locs1 : List Loc), Wd D A s (ws.set q0 (a, .inl (cA, n, .inl (upd f j (vp_nar .byte x))))) H1 locs1 → W p l e R s m args below meth c H1 locs1 cells slots Q (F0 m (pc + 1) ls rest)) : W p l e R s m args below meth c H locs cells slots Q (F0 m pc ls (.int x :: .int i :: .ref a :: rest)) := by
  subst hi
  exact va_bast C.1 C.2.1 C.2.2.2.2.2.1 X.1 X.2.1 X.2.2.1 q0 t0 ha ht hin hdg (fun H1 L1 a1 a2 a3 => kk H1 L1 ⟨a1, a2, a3, X.2.2.2⟩)
theorem x_zast (C : Cx p s m args c cc nL own D tys) (X : Wd D A s ws H locs) (q0 t0 : Nat) {cA : ClassId} {n : Nat} {f : Nat → Int32} (ha : ws[q0]? = some (a, .inl (cA, n, .inl f))) (ht : tys[t0]? = some (cA, .boolean)) {i : Int32} {x : Int32} {j : Nat} (hi : i.toNatClampNeg = j) (hin : vp_in i n) (hdg : decode cc pc = .ok (.bastore, 1))
    (kk : ∀ (H1 : Heap) (locs1 : List Loc), Wd D A s (ws.set q0 (a, .inl (cA, n, .inl (upd f j (vp_nar .boolean x))))) H1 locs1 → W p l e R s m args below meth c H1 locs1 cells slots Q (F0 m (pc + 1) ls rest)) : W p l e R s m args below meth c H locs cells slots Q (F0 m pc ls (.int x :: .int i :: .ref a :: rest)) := by
  subst hi
  exact va_zast C.1 C.2.1 C.2.2.2.2.2.1 X.1 X.2.1 X.2.2.1 q0 t0 ha ht hin hdg (fun H1 L1 a1 a2 a3 => kk H1 L1 ⟨a1, a2, a3, X.2.2.2⟩)
theorem x_last (C : Cx p s m args c cc nL own D tys) (X : Wd D A s ws H locs) (q0 t0 : Nat) {cA : ClassId} {n : Nat} {f : Nat → Int64} (ha : ws[q0]? = some (a, .inl (cA, n, .inr (.inl f)))) (ht : tys[t0]? = some (cA, .long)) {i : Int32} {x : Int64} {j : Nat} (hi : i.toNatClampNeg = j) (hin : vp_in i n) (hdg : decode cc pc = .ok (.lastore, 1))
    (kk : ∀ (H1 : Heap) (locs1 : List Loc), Wd D A s (ws.set q0 (a, .inl (cA, n, .inr (.inl (vp_updL f j x))))) H1 locs1 → W p l e R s m args below meth c H1 locs1 cells slots Q (F0 m (pc + 1) ls rest)) : W p l e R s m args below meth c H locs cells slots Q (F0 m pc ls (.long x :: .int i :: .ref a :: rest)) := by
  subst hi
  exact va_last C.1 C.2.1 C.2.2.2.2.2.1 X.1 X.2.1 X.2.2.1 q0 t0 ha ht hin hdg (fun H1 L1 a1 a2 a3 => kk H1 L1 ⟨a1, a2, a3, X.2.2.2⟩)
theorem x_alen (C : Cx p s m args c cc nL own D tys) (X : Wd D A s ws H locs) (q0 t0 : Nat) {cA : ClassId} {x : vp_A} (ha : ws[q0]? = some (a, .inl (cA, x))) {ty : FieldType} (ht : tys[t0]? = some (cA, ty)) {v : Int32} (hv : Int32.ofNat x.1 = v) (hdg : decode cc pc = .ok (.arraylength, 1))
    (kk : W p l e R s m args below meth c H locs cells slots Q (F0 m (pc + 1) ls (.int v :: rest))) : W p l e R s m args below meth c H locs cells slots Q (F0 m pc ls (.ref a :: rest)) :=
  va_alen C.1 C.2.1 C.2.2.2.2.2.1 X.1 q0 t0 ha ht hv hdg kk
theorem x_objInit (C : Cx p s m args c cc nL own D tys) (hl : ls.size = nL) {idx : Nat} (hw1 : Cond.methodLink own idx objectInit ∈ wsL_law) (hw2 : Cond.instanceMethod objectInit ∈ wsL_law) (hw3 : Cond.code objectInit ⟨#[0xb1]⟩ 1 none ∈ wsL_law) (hdg : decode cc pc = .ok (.invokespecial idx, 3)) (hframes : 1 ≤ R.frames) (hlocals : (rest.map fun v => v.category).sum + 12 ≤ R.locals)
    (kk : W p l e R s m args below meth c H locs cells slots Q (F0 m (pc + 3) ls rest)) : W p l e R s m args below meth c H locs cells slots Q (F0 m pc ls (.ref a :: rest)) :=
  W.objInit C.1 C.2.1 C.2.2.2.1 (C.2.2.2.2.1 _ hw1) (C.2.2.2.2.1 _ hw2) (C.2.2.2.2.1 _ hw3) rfl (by rw [C.2.2.1]; exact hl) rfl hdg hframes (by show 2 * 0 + _ + 12 ≤ _; omega) kk
-- ends
theorem x_iret {S : Type} {post : Int32 → S → Prop} {w1 : S → va_W} {mc ms : Nat} (C : Cx p s m args c cc nL own D tys) (X : Wd D A s ws H locs) {ty : FieldType} (hr : meth.sig.returnType = some ty) (hlocks : meth.locks = false) {v : Int32} (hn : narrow ty (.int v) = .int v) (u : S) (is : List Nat) (hnd : va_nd is = true) (hs : is.map (fun i => ws[i]?) = (w1 u).map some) (hp : post v u) (hc : cells ≤ mc) (hsl : slots ≤ ms) (hdg : decode cc pc = .ok (.ireturn, 1)) :
    W p l e R s m args below meth c H locs cells slots (MQ below (va_Qi post (fun u t => Aft D A (w1 u) t) A) args s mc ms A) (F0 m pc ls [.int v]) := by
  refine W.widen (k := mc) (n := ms) hc hsl ?_
  have hP9 : va_P D classes (w1 u) H := X.1.sub is (by
    have := congrArg (List.filterMap id) hs
    simpa [List.filterMap_map, Function.comp_def] using this)
  exact W.zret C.1 C.2.1 hr hn (fun t ht hW => ⟨⟨v, u, rfl, hp, by rw [ht]; exact hP9, X.2.1.sub is hnd hs⟩, X.2.2.1.F ht⟩) X.2.2.1.2.2 hdg hlocks
theorem x_lret {S : Type} {post : Int64 → S → Prop} {w1 : S → va_W} {mc ms : Nat} (C : Cx p s m args c cc nL own D tys) (X : Wd D A s ws H locs) (hr : meth.sig.returnType = some .long) (hlocks : meth.locks = false) {v : Int64} (u : S) (is : List Nat) (hnd : va_nd is = true) (hs : is.map (fun i => ws[i]?) = (w1 u).map some) (hp : post v u) (hc : cells ≤ mc) (hsl : slots ≤ ms) (hdg : decode cc pc = .ok (.lreturn, 1)) :
    W p l e R s m args below meth c H locs cells slots (MQ below (va_Ql post (fun u t => Aft D A (w1 u) t) A) args s mc ms A) (F0 m pc ls [.long v]) := by
  refine W.widen (k := mc) (n := ms) hc hsl ?_
  have hP9 : va_P D classes (w1 u) H := X.1.sub is (by
    have := congrArg (List.filterMap id) hs
    simpa [List.filterMap_map, Function.comp_def] using this)
  exact W.lret C.1 C.2.1 hr (fun t ht hW => ⟨⟨v, u, rfl, hp, by rw [ht]; exact hP9, X.2.1.sub is hnd hs⟩, X.2.2.1.F ht⟩) X.2.2.1.2.2 hdg hlocks
theorem x_vret {S : Type} {post : S → Prop} {w1 : S → va_W} {mc ms : Nat} (C : Cx p s m args c cc nL own D tys) (X : Wd D A s ws H locs) (hr : meth.sig.returnType = none) (hlocks : meth.locks = false) (u : S) (is : List Nat) (hnd : va_nd is = true) (hs : is.map (fun i => ws[i]?) = (w1 u).map some) (hp : post u) (hc : cells ≤ mc) (hsl : slots ≤ ms) (hdg : decode cc pc = .ok (.return_, 1)) :
    W p l e R s m args below meth c H locs cells slots (MQ below (va_Qv post (fun u t => Aft D A (w1 u) t) A) args s mc ms A) (F0 m pc ls []) := by
  refine W.widen (k := mc) (n := ms) hc hsl ?_
  have hP9 : va_P D classes (w1 u) H := X.1.sub is (by
    have := congrArg (List.filterMap id) hs
    simpa [List.filterMap_map, Function.comp_def] using this)
  exact W.vret C.1 C.2.1 hr (fun t ht hW => ⟨⟨u, rfl, hp, by rw [ht]; exact hP9, X.2.1.sub is hnd hs⟩, X.2.2.1.F ht⟩) X.2.2.1.2.2 hdg hlocks
-- calls
variable {y : MethodName} {bytes : ByteArray} {maxL index n qb ci : Nat} {ret : Option FieldType} {rm : Room} {As st0 : List Value} {b : Addr} {Cn : String} {T : u_T} {N : Nat} {wc wr : va_W} {S : Type} {fs : List Value}
/-- what every call needs: the callee's cells and the rest, by their places -/
def Cut (ws wc wr : va_W) (isC isR : List Nat) : Prop := isC.map (fun i => ws[i]?) = wc.map some ∧ isR.map (fun i => ws[i]?) = wr.map some ∧ va_nd isC = true ∧ va_nd isR = true ∧ ∀ i ∈ isR, i ∉ isC
theorem sub_of {ws wc : va_W} {is : List Nat} (h : is.map (fun i => ws[i]?) = wc.map some) : is.filterMap (fun i => ws[i]?) = wc := by
  have := congrArg (List.filterMap id) h
  simpa [List.filterMap_map, Function.comp_def] using this
theorem cut_join {isC isR : List Nat} (X : Wd D A s ws H locs) (K : Cut ws wc wr isC isR) {H1 : Heap} {locs1 : List Loc} {w1 : va_W} {t : State} (ht : t.heap = H1) (hk : ∀ q : Nat, q < H.size → ¬ va_A wc H.size q → H1[q]? = H[q]?) (hB : Aft D (va_A wc H.size) w1 t) (hS : va_S A s.heap H1 locs1) : Wd D A s (wr ++ w1) H1 locs1 := by
  obtain ⟨hP1, hD1⟩ := hB
  rw [ht] at hP1
  have hF := va_free (wc := wc) X.2.1 X.2.2.1 X.2.2.2 isC K.1
  obtain ⟨a1, a2⟩ := va_join (wr := wr) (w1 := w1) X.1 X.2.1 isC isR K.1 K.2.1 K.2.2.2.1 K.2.2.2.2 hk hF hP1 hD1
  exact ⟨a1, a2, hS, X.2.2.2⟩
theorem x_cV {w1 : S → va_W} {post : Int32 → S → Prop} (C : Cx p s m args c cc nL own D tys) (X : Wd D A s ws H locs) (hl : ls.size = nL) (hM : CI l D tys y bytes maxL ret rm (.ref b :: As) wc post w1) (isC isR : List Nat) (K : Cut ws wc wr isC isR) (hb0 : wc[qb]? = some (b, .inr (ci, fs))) (hc : classes[ci]? = some (Cn, T, N))
    (hw1 : Cond.methodLink own index y ∈ wsL_law) (hw2 : Cond.instanceMethod y ∈ wsL_law) (hw3 : Cond.selects Cn y y ∈ wsL_law) (hw4 : Cond.initialized Cn ∈ wsL_law) (hw5 : Cond.code y bytes maxL ret ∈ wsL_law)
    (hd : y.cls = Cn ∧ y.cls ≠ "java/lang/invoke/MethodHandle" ∧ y.cls ≠ "java/lang/invoke/VarHandle" ∧ (parseMethodDescriptor y.desc).map (fun d => d.parameters.length) = some n) (hR : rm.frames + 1 ≤ R.frames ∧ 8 + (maxL + 11) + rm.locals ≤ R.locals)
    (hn : As.length = n) (hst : st0 = As.reverse ++ .ref b :: rest) (hroom : (rest.map fun v => v.category).sum ≤ 8) (hdg : decode cc pc = .ok (.invokevirtual index, 3)) (hf : cells + rm.cells ≤ R.cells ∧ slots + rm.slots ≤ R.slots)
    (kk : ∀ (r : Int32) (u : S) (H1 : Heap) (locs1 : List Loc), post r u → Wd D A s (wr ++ w1 u) H1 locs1 → W p l e R s m args below meth c H1 locs1 (cells + rm.cells) (slots + rm.slots) Q (F0 m (pc + 3) ls (.int r :: rest))) :
    W p l e R s m args below meth c H locs cells slots Q (F0 m pc ls st0) := by
  subst hst
  have hg : GoodIn wsL_law (wsV own index Cn y (.code y bytes maxL ret :: wsL_law)) := goodIn_app (fun w hw => wL_gin w (by simp only [List.mem_cons, List.not_mem_nil, or_false] at hw; rcases hw with h | h | h | h <;> rw [h] <;> assumption)) (wL_code hw5)
  have hPc := X.1.sub isC (sub_of K.1)
  have hDc := X.2.1.sub isC K.2.2.1 K.1
  have hF := va_free (wc := wc) X.2.1 X.2.2.1 X.2.2.2 isC K.1
  exact va_calli (va_runV ⟨C.1, C.2.1, C.2.2.1, C.2.2.2.1, C.2.2.2.2.1⟩ (hM H.size) (cwV n C.2.2.2.2.1 hg rfl rfl rfl hd hR) ⟨Pre.blind, va_recv C.2.2.2.2.2.1 hPc hc hb0, fun U hU hW => ⟨rfl, Pre.of hPc hDc C.2.2.2.2.2 hU hW⟩⟩ rfl hn hl rfl (lv_room hroom) hdg hf) X.2.2.1 (fun q _ h => hF q h) hF
    (fun r u t H1 locs1 ht hvm hw hB hz hk hS => kk r u H1 locs1 hw (cut_join X K ht hk hB hS))
theorem x_cVl {w1 : S → va_W} {post : Int64 → S → Prop} (C : Cx p s m args c cc nL own D tys) (X : Wd D A s ws H locs) (hl : ls.size = nL) (hM : CL l D tys y bytes maxL rm (.ref b :: As) wc post w1) (isC isR : List Nat) (K : Cut ws wc wr isC isR) (hb0 : wc[qb]? = some (b, .inr (ci, fs))) (hc : classes[ci]? = some (Cn, T, N))
    (hw1 : Cond.methodLink own index y ∈ wsL_law) (hw2 : Cond.instanceMethod y ∈ wsL_law) (hw3 : Cond.selects Cn y y ∈ wsL_law) (hw4 : Cond.initialized Cn ∈ wsL_law) (hw5 : Cond.code y bytes maxL (some .long) ∈ wsL_law)
    (hd : y.cls = Cn ∧ y.cls ≠ "java/lang/invoke/MethodHandle" ∧ y.cls ≠ "java/lang/invoke/VarHandle" ∧ (parseMethodDescriptor y.desc).map (fun d => d.parameters.length) = some n) (hR : rm.frames + 1 ≤ R.frames ∧ 8 + (maxL + 11) + rm.locals ≤ R.locals)
    (hn : As.length = n) (hst : st0 = As.reverse ++ .ref b :: rest) (hroom : (rest.map fun v => v.category).sum ≤ 8) (hdg : decode cc pc = .ok (.invokevirtual index, 3)) (hf : cells + rm.cells ≤ R.cells ∧ slots + rm.slots ≤ R.slots)
    (kk : ∀ (r : Int64) (u : S) (H1 : Heap) (locs1 : List Loc), post r u → Wd D A s (wr ++ w1 u) H1 locs1 → W p l e R s m args below meth c H1 locs1 (cells + rm.cells) (slots + rm.slots) Q (F0 m (pc + 3) ls (.long r :: rest))) :
    W p l e R s m args below meth c H locs cells slots Q (F0 m pc ls st0) := by
  subst hst
  have hg : GoodIn wsL_law (wsV own index Cn y (.code y bytes maxL (some .long) :: wsL_law)) := goodIn_app (fun w hw => wL_gin w (by simp only [List.mem_cons, List.not_mem_nil, or_false] at hw; rcases hw with h | h | h | h <;> rw [h] <;> assumption)) (wL_code hw5)
  have hPc := X.1.sub isC (sub_of K.1)
  have hDc := X.2.1.sub isC K.2.2.1 K.1
  have hF := va_free (wc := wc) X.2.1 X.2.2.1 X.2.2.2 isC K.1
  exact va_calll (va_runV ⟨C.1, C.2.1, C.2.2.1, C.2.2.2.1, C.2.2.2.2.1⟩ (hM H.size) (cwV n C.2.2.2.2.1 hg rfl rfl rfl hd hR) ⟨Pre.blind, va_recv C.2.2.2.2.2.1 hPc hc hb0, fun U hU hW => ⟨rfl, Pre.of hPc hDc C.2.2.2.2.2 hU hW⟩⟩ rfl hn hl rfl (lv_room hroom) hdg hf) X.2.2.1 (fun q _ h => hF q h) hF
    (fun r u t H1 locs1 ht hvm hw hB hz hk hS => kk r u H1 locs1 hw (cut_join X K ht hk hB hS))
theorem x_cVv {w1 : S → va_W} {post : S → Prop} (C : Cx p s m args c cc nL own D tys) (X : Wd D A s ws H locs) (hl : ls.size = nL) (hM : CV l D tys y bytes maxL rm (.ref b :: As) wc post w1) (isC isR : List Nat) (K : Cut ws wc wr isC isR) (hb0 : wc[qb]? = some (b, .inr (ci, fs))) (hc : classes[ci]? = some (Cn, T, N))
    (hw1 : Cond.methodLink own index y ∈ wsL_law) (hw2 : Cond.instanceMethod y ∈ wsL_law) (hw3 : Cond.selects Cn y y ∈ wsL_law) (hw4 : Cond.initialized Cn ∈ wsL_law) (hw5 : Cond.code y bytes maxL none ∈ wsL_law)
    (hd : y.cls = Cn ∧ y.cls ≠ "java/lang/invoke/MethodHandle" ∧ y.cls ≠ "java/lang/invoke/VarHandle" ∧ (parseMethodDescriptor y.desc).map (fun d => d.parameters.length) = some n) (hR : rm.frames + 1 ≤ R.frames ∧ 8 + (maxL + 11) + rm.locals ≤ R.locals)
    (hn : As.length = n) (hst : st0 = As.reverse ++ .ref b :: rest) (hroom : (rest.map fun v => v.category).sum ≤ 8) (hdg : decode cc pc = .ok (.invokevirtual index, 3)) (hf : cells + rm.cells ≤ R.cells ∧ slots + rm.slots ≤ R.slots)
    (kk : ∀ (u : S) (H1 : Heap) (locs1 : List Loc), post u → Wd D A s (wr ++ w1 u) H1 locs1 → W p l e R s m args below meth c H1 locs1 (cells + rm.cells) (slots + rm.slots) Q (F0 m (pc + 3) ls rest)) :
    W p l e R s m args below meth c H locs cells slots Q (F0 m pc ls st0) := by
  subst hst
  have hg : GoodIn wsL_law (wsV own index Cn y (.code y bytes maxL none :: wsL_law)) := goodIn_app (fun w hw => wL_gin w (by simp only [List.mem_cons, List.not_mem_nil, or_false] at hw; rcases hw with h | h | h | h <;> rw [h] <;> assumption)) (wL_code hw5)
  have hPc := X.1.sub isC (sub_of K.1)
  have hDc := X.2.1.sub isC K.2.2.1 K.1
  have hF := va_free (wc := wc) X.2.1 X.2.2.1 X.2.2.2 isC K.1
  exact va_callv (va_runV ⟨C.1, C.2.1, C.2.2.1, C.2.2.2.1, C.2.2.2.2.1⟩ (hM H.size) (cwV n C.2.2.2.2.1 hg rfl rfl rfl hd hR) ⟨Pre.blind, va_recv C.2.2.2.2.2.1 hPc hc hb0, fun U hU hW => ⟨rfl, Pre.of hPc hDc C.2.2.2.2.2 hU hW⟩⟩ rfl hn hl rfl (lv_room hroom) hdg hf) X.2.2.1 (fun q _ h => hF q h) hF
    (fun u t H1 locs1 ht hvm hw hB hz hk hS => kk u H1 locs1 hw (cut_join X K ht hk hB hS))
theorem x_cS {w1 : S → va_W} {post : Int32 → S → Prop} (C : Cx p s m args c cc nL own D tys) (X : Wd D A s ws H locs) (hl : ls.size = nL) (hM : CI l D tys y bytes maxL ret rm As wc post w1) (isC isR : List Nat) (K : Cut ws wc wr isC isR)
    (hw1 : Cond.methodLink own index y ∈ wsL_law) (hw2 : Cond.static y ∈ wsL_law) (hw4 : Cond.initialized y.cls ∈ wsL_law) (hw5 : Cond.code y bytes maxL ret ∈ wsL_law)
    (hd : y.cls ≠ "java/lang/invoke/MethodHandle" ∧ y.cls ≠ "java/lang/invoke/VarHandle" ∧ (parseMethodDescriptor y.desc).map (fun d => d.parameters.length) = some n) (hR : rm.frames + 1 ≤ R.frames ∧ 8 + (maxL + 11) + rm.locals ≤ R.locals)
    (hn : As.length = n) (hst : st0 = As.reverse ++ rest) (hroom : (rest.map fun v => v.category).sum ≤ 8) (hdg : decode cc pc = .ok (.invokestatic index, 3)) (hf : cells + rm.cells ≤ R.cells ∧ slots + rm.slots ≤ R.slots)
    (kk : ∀ (r : Int32) (u : S) (H1 : Heap) (locs1 : List Loc), post r u → Wd D A s (wr ++ w1 u) H1 locs1 → W p l e R s m args below meth c H1 locs1 (cells + rm.cells) (slots + rm.slots) Q (F0 m (pc + 3) ls (.int r :: rest))) :
    W p l e R s m args below meth c H locs cells slots Q (F0 m pc ls st0) := by
  subst hst
  have hg : GoodIn wsL_law (va_wsS own index y (.code y bytes maxL ret :: wsL_law)) := goodIn_app (fun w hw => wL_gin w (by simp only [List.mem_cons, List.not_mem_nil, or_false] at hw; rcases hw with h | h | h <;> rw [h] <;> assumption)) (wL_code hw5)
  have hPc := X.1.sub isC (sub_of K.1)
  have hDc := X.2.1.sub isC K.2.2.1 K.1
  have hF := va_free (wc := wc) X.2.1 X.2.2.1 X.2.2.2 isC K.1
  exact va_calli (va_runS ⟨C.1, C.2.1, C.2.2.1, C.2.2.2.1, C.2.2.2.2.1⟩ (hM H.size) (va_cwS n C.2.2.2.2.1 hg rfl rfl rfl hd hR) ⟨Pre.blind, fun U hU hW => ⟨rfl, Pre.of hPc hDc C.2.2.2.2.2 hU hW⟩⟩ rfl hn hl rfl (lv_room hroom) hdg hf) X.2.2.1 (fun q _ h => hF q h) hF
    (fun r u t H1 locs1 ht hvm hw hB hz hk hS => kk r u H1 locs1 hw (cut_join X K ht hk hB hS))
theorem x_cSl {w1 : S → va_W} {post : Int64 → S → Prop} (C : Cx p s m args c cc nL own D tys) (X : Wd D A s ws H locs) (hl : ls.size = nL) (hM : CL l D tys y bytes maxL rm As wc post w1) (isC isR : List Nat) (K : Cut ws wc wr isC isR)
    (hw1 : Cond.methodLink own index y ∈ wsL_law) (hw2 : Cond.static y ∈ wsL_law) (hw4 : Cond.initialized y.cls ∈ wsL_law) (hw5 : Cond.code y bytes maxL (some .long) ∈ wsL_law)
    (hd : y.cls ≠ "java/lang/invoke/MethodHandle" ∧ y.cls ≠ "java/lang/invoke/VarHandle" ∧ (parseMethodDescriptor y.desc).map (fun d => d.parameters.length) = some n) (hR : rm.frames + 1 ≤ R.frames ∧ 8 + (maxL + 11) + rm.locals ≤ R.locals)
    (hn : As.length = n) (hst : st0 = As.reverse ++ rest) (hroom : (rest.map fun v => v.category).sum ≤ 8) (hdg : decode cc pc = .ok (.invokestatic index, 3)) (hf : cells + rm.cells ≤ R.cells ∧ slots + rm.slots ≤ R.slots)
    (kk : ∀ (r : Int64) (u : S) (H1 : Heap) (locs1 : List Loc), post r u → Wd D A s (wr ++ w1 u) H1 locs1 → W p l e R s m args below meth c H1 locs1 (cells + rm.cells) (slots + rm.slots) Q (F0 m (pc + 3) ls (.long r :: rest))) :
    W p l e R s m args below meth c H locs cells slots Q (F0 m pc ls st0) := by
  subst hst
  have hg : GoodIn wsL_law (va_wsS own index y (.code y bytes maxL (some .long) :: wsL_law)) := goodIn_app (fun w hw => wL_gin w (by simp only [List.mem_cons, List.not_mem_nil, or_false] at hw; rcases hw with h | h | h <;> rw [h] <;> assumption)) (wL_code hw5)
  have hPc := X.1.sub isC (sub_of K.1)
  have hDc := X.2.1.sub isC K.2.2.1 K.1
  have hF := va_free (wc := wc) X.2.1 X.2.2.1 X.2.2.2 isC K.1
  exact va_calll (va_runS ⟨C.1, C.2.1, C.2.2.1, C.2.2.2.1, C.2.2.2.2.1⟩ (hM H.size) (va_cwS n C.2.2.2.2.1 hg rfl rfl rfl hd hR) ⟨Pre.blind, fun U hU hW => ⟨rfl, Pre.of hPc hDc C.2.2.2.2.2 hU hW⟩⟩ rfl hn hl rfl (lv_room hroom) hdg hf) X.2.2.1 (fun q _ h => hF q h) hF
    (fun r u t H1 locs1 ht hvm hw hB hz hk hS => kk r u H1 locs1 hw (cut_join X K ht hk hB hS))
theorem x_cSv {w1 : S → va_W} {post : S → Prop} (C : Cx p s m args c cc nL own D tys) (X : Wd D A s ws H locs) (hl : ls.size = nL) (hM : CV l D tys y bytes maxL rm As wc post w1) (isC isR : List Nat) (K : Cut ws wc wr isC isR)
    (hw1 : Cond.methodLink own index y ∈ wsL_law) (hw2 : Cond.static y ∈ wsL_law) (hw4 : Cond.initialized y.cls ∈ wsL_law) (hw5 : Cond.code y bytes maxL none ∈ wsL_law)
    (hd : y.cls ≠ "java/lang/invoke/MethodHandle" ∧ y.cls ≠ "java/lang/invoke/VarHandle" ∧ (parseMethodDescriptor y.desc).map (fun d => d.parameters.length) = some n) (hR : rm.frames + 1 ≤ R.frames ∧ 8 + (maxL + 11) + rm.locals ≤ R.locals)
    (hn : As.length = n) (hst : st0 = As.reverse ++ rest) (hroom : (rest.map fun v => v.category).sum ≤ 8) (hdg : decode cc pc = .ok (.invokestatic index, 3)) (hf : cells + rm.cells ≤ R.cells ∧ slots + rm.slots ≤ R.slots)
    (kk : ∀ (u : S) (H1 : Heap) (locs1 : List Loc), post u → Wd D A s (wr ++ w1 u) H1 locs1 → W p l e R s m args below meth c H1 locs1 (cells + rm.cells) (slots + rm.slots) Q (F0 m (pc + 3) ls rest)) :
    W p l e R s m args below meth c H locs cells slots Q (F0 m pc ls st0) := by
  subst hst
  have hg : GoodIn wsL_law (va_wsS own index y (.code y bytes maxL none :: wsL_law)) := goodIn_app (fun w hw => wL_gin w (by simp only [List.mem_cons, List.not_mem_nil, or_false] at hw; rcases hw with h | h | h <;> rw [h] <;> assumption)) (wL_code hw5)
  have hPc := X.1.sub isC (sub_of K.1)
  have hDc := X.2.1.sub isC K.2.2.1 K.1
  have hF := va_free (wc := wc) X.2.1 X.2.2.1 X.2.2.2 isC K.1
  exact va_callv (va_runS ⟨C.1, C.2.1, C.2.2.1, C.2.2.2.1, C.2.2.2.2.1⟩ (hM H.size) (va_cwS n C.2.2.2.2.1 hg rfl rfl rfl hd hR) ⟨Pre.blind, fun U hU hW => ⟨rfl, Pre.of hPc hDc C.2.2.2.2.2 hU hW⟩⟩ rfl hn hl rfl (lv_room hroom) hdg hf) X.2.2.1 (fun q _ h => hF q h) hF
    (fun u t H1 locs1 ht hvm hw hB hz hk hS => kk u H1 locs1 hw (cut_join X K ht hk hB hS))
theorem x_cI {w1 : S → va_W} {post : S → Prop} (C : Cx p s m args c cc nL own D tys) (X : Wd D A s ws H locs) (hl : ls.size = nL) (hM : CV l D tys y bytes maxL rm (.ref b :: As) wc post w1) (isC isR : List Nat) (K : Cut ws wc wr isC isR)
    (hw1 : Cond.methodLink own index y ∈ wsL_law) (hw2 : Cond.instanceMethod y ∈ wsL_law) (hw4 : Cond.initialized y.cls ∈ wsL_law) (hw5 : Cond.code y bytes maxL none ∈ wsL_law) (hy1 : y.name = "<init>")
    (hd : y.cls ≠ "java/lang/invoke/MethodHandle" ∧ y.cls ≠ "java/lang/invoke/VarHandle" ∧ (parseMethodDescriptor y.desc).map (fun d => d.parameters.length) = some n) (hR : rm.frames + 1 ≤ R.frames ∧ 8 + (maxL + 11) + rm.locals ≤ R.locals)
    (hn : As.length = n) (hst : st0 = As.reverse ++ .ref b :: rest) (hroom : (rest.map fun v => v.category).sum ≤ 8) (hdg : decode cc pc = .ok (.invokespecial index, 3)) (hf : cells + rm.cells ≤ R.cells ∧ slots + rm.slots ≤ R.slots)
    (kk : ∀ (u : S) (H1 : Heap) (locs1 : List Loc), post u → Wd D A s (wr ++ w1 u) H1 locs1 → W p l e R s m args below meth c H1 locs1 (cells + rm.cells) (slots + rm.slots) Q (F0 m (pc + 3) ls rest)) :
    W p l e R s m args below meth c H locs cells slots Q (F0 m pc ls st0) := by
  subst hst
  have hPc := X.1.sub isC (sub_of K.1)
  have hDc := X.2.1.sub isC K.2.2.1 K.1
  have hF := va_free (wc := wc) X.2.1 X.2.2.1 X.2.2.2 isC K.1
  exact va_callv (va_runI ⟨C.1, C.2.1, C.2.2.1, C.2.2.2.1, C.2.2.2.2.1⟩ (hM H.size) (cwI n C.2.2.2.2.1 (wL_code hw5) rfl rfl rfl (C.2.2.2.2.1 _ hw4) (C.2.2.2.2.1 _ hw1) (C.2.2.2.2.1 _ hw2) hy1 hd hR) ⟨Pre.blind, fun U hU hW => ⟨rfl, Pre.of hPc hDc C.2.2.2.2.2 hU hW⟩⟩ rfl hn hl rfl (lv_room hroom) hdg hf) X.2.2.1 (fun q _ h => hF q h) hF
    (fun u t H1 locs1 ht hvm hw hB hz hk hS => kk u H1 locs1 hw (cut_join X K ht hk hB hS))
theorem x_cN {w1 : S → va_W} {post : Int32 → S → Prop} (C : Cx p s m args c cc nL own D tys) (X : Wd D A s ws H locs) (hl : ls.size = nL) (hM : CI l D tys yX11_isWeek bytes maxL ret rm As wc post w1) (isC isR : List Nat) (K : Cut ws wc wr isC isR)
    (hw2 : Cond.static yX11_isWeek ∈ wsL_law) (hw4 : Cond.initialized RX11 ∈ wsL_law) (hw5 : Cond.code yX11_isWeek bytes maxL ret ∈ wsL_law) (ho : own = RX10)
    (hd : yX11_isWeek.cls ≠ "java/lang/invoke/MethodHandle" ∧ yX11_isWeek.cls ≠ "java/lang/invoke/VarHandle" ∧ (parseMethodDescriptor yX11_isWeek.desc).map (fun d => d.parameters.length) = some n) (hR : rm.frames + 1 ≤ R.frames ∧ 8 + (maxL + 11) + rm.locals ≤ R.locals)
    (hn : As.length = n) (hst : st0 = As.reverse ++ rest) (hroom : (rest.map fun v => v.category).sum ≤ 8) (hdg : decode cc pc = .ok (.invokestatic 66, 3)) (hf : cells + rm.cells ≤ R.cells ∧ slots + rm.slots ≤ R.slots)
    (kk : ∀ (r : Int32) (u : S) (H1 : Heap) (locs1 : List Loc), post r u → Wd D A s (wr ++ w1 u) H1 locs1 → W p l e R s m args below meth c H1 locs1 (cells + rm.cells) (slots + rm.slots) Q (F0 m (pc + 3) ls (.int r :: rest))) :
    W p l e R s m args below meth c H locs cells slots Q (F0 m pc ls st0) := by
  subst hst
  subst ho
  have hPc := X.1.sub isC (sub_of K.1)
  have hDc := X.2.1.sub isC K.2.2.1 K.1
  have hF := va_free (wc := wc) X.2.1 X.2.2.1 X.2.2.2 isC K.1
  exact va_calli (va_runSN ⟨C.1, C.2.1, C.2.2.1, C.2.2.2.1, C.2.2.2.2.1⟩ (hM H.size) ⟨va_cnB (host := RX11) n C.2.2.2.2.1 (wL_code hw5) rfl rfl rfl C.2.2.2.2.2.2.1 (C.2.2.2.2.1 _ hw4) hd hR, C.2.2.2.2.1 _ hw2, trivial⟩ ⟨Pre.blind, fun U hU hW => ⟨rfl, Pre.of hPc hDc C.2.2.2.2.2 hU hW⟩⟩ rfl hn hl rfl (lv_room hroom) hdg hf) X.2.2.1 (fun q _ h => hF q h) hF
    (fun r u t H1 locs1 ht hvm hw hB hz hk hS => kk r u H1 locs1 hw (cut_join X K ht hk hB hS))
theorem x_newq (C : Cx p s m args c cc nL own D tys) (X : Wd D A s ws H locs) {index : Nat} (hw : Cond.classLink own index RX10 ∈ wsL_law) (t0 : Nat) {cO : ClassId} (ht : tys[t0]? = some (cO, .object RX10)) {n : Int32} {N' : Nat} (hn : ¬ n < 0) (hN : n.toNatClampNeg = N') (hbytes : N' * 4 ≤ 536870912) (hcells : cells + 1 ≤ R.cells) (hslots : slots + N' ≤ R.slots) (hdg : decode cc pc = .ok (.anewarray index, 3))
    (kk : ∀ (q : Nat) (H1 : Heap), Wd D A s (ws ++ [(q, .inl (cO, N', .inr (.inr (.inr (.inr (fun _ => none))))))]) H1 locs → W p l e R s m args below meth c H1 locs (cells + 1) (slots + N') Q (F0 m (pc + 3) ls (.ref q :: rest))) : W p l e R s m args below meth c H locs cells slots Q (F0 m pc ls (.int n :: rest)) := by
  refine va_newq C.1 C.2.1 C.2.2.2.1 (C.2.2.2.2.1 _ hw) C.2.2.2.2.2.2.2 C.2.2.2.2.2.1 X.1 X.2.1 X.2.2.1 X.2.2.2 hn hN hbytes hcells hslots hdg (fun q cA H1 hK1 a1 a2 a3 => ?_)
  obtain ⟨_, _, -, -, -, e1⟩ := (hK1.2 tys.length (cA, .object RX10) (by simp)).2
  obtain ⟨_, _, -, -, -, e0⟩ := (C.2.2.2.2.2.1.2 t0 _ ht).2
  have ec : cA = cO := Option.some.inj (Eq.trans (Eq.symm e1) e0)
  subst ec
  exact kk q H1 ⟨a1, a2, a3, X.2.2.2⟩
theorem x_astq (C : Cx p s m args c cc nL own D tys) (X : Wd D A s ws H locs) (q0 t0 qk ci : Nat) {cA : ClassId} {r : vw_C} {n v : Nat} {vs : List Value} {f : Nat → Option Nat} (ha : ws[q0]? = some (a, .inl (cA, n, .inr (.inr (.inr (.inr f)))))) (ht : tys[t0]? = some (cA, .object r.1)) (hv : ws[qk]? = some (v, .inr (ci, vs))) (hc : classes[ci]? = some r) {i : Int32} {j : Nat} (hi : i.toNatClampNeg = j) (hin : vp_in i n) (hdg : decode cc pc = .ok (.aastore, 1))
    (kk : ∀ (H1 : Heap) (locs1 : List Loc), Wd D A s (ws.set q0 (a, .inl (cA, n, .inr (.inr (.inr (.inr (va_up f j (some v)))))))) H1 locs1 → W p l e R s m args below meth c H1 locs1 cells slots Q (F0 m (pc + 1) ls rest)) : W p l e R s m args below meth c H locs cells slots Q (F0 m pc ls (.ref v :: .int i :: .ref a :: rest)) := by
  subst hi
  exact va_astq C.1 C.2.1 C.2.2.2.2.2.1 X.1 X.2.1 X.2.2.1 q0 t0 qk ci ha ht hv hc hin hdg (fun H1 L1 a1 a2 a3 => kk H1 L1 ⟨a1, a2, a3, X.2.2.2⟩)
end ROWS
end
section
theorem k_12_5 : Cond.methodLink RX11 131 yX11_isBetween ∈ wsL_law := mr_12 _ (List.mem_of_getElem? (i := 5) rfl)
theorem k_12_6 : Cond.static yX11_isBetween ∈ wsL_law := mr_12 _ (List.mem_of_getElem? (i := 6) rfl)
theorem k_12_7 : Cond.code yX11_isBetween cX11_isBetween 3 (some .boolean) ∈ wsL_law := mr_12 _ (List.mem_of_getElem? (i := 7) rfl)
theorem k_1_2 : Cond.initialized RX11 ∈ wsL_law := mr_1 _ (List.mem_of_getElem? (i := 2) rfl)
theorem dJ7_fill_53178_0 : decode cJ7_fill_53178 0 = .ok (.iconst 0, 1) := by decide +kernel
theorem dJ7_fill_53178_1 : decode cJ7_fill_53178 1 = .ok (.istore_n 2, 1) := by decide +kernel
theorem dJ7_fill_53178_2 : decode cJ7_fill_53178 2 = .ok (.aload_n 0, 1) := by decide +kernel
theorem dJ7_fill_53178_3 : decode cJ7_fill_53178 3 = .ok (.arraylength, 1) := by decide +kernel
theorem dJ7_fill_53178_4 : decode cJ7_fill_53178 4 = .ok (.istore_n 3, 1) := by decide +kernel
theorem dJ7_fill_53178_5 : decode cJ7_fill_53178 5 = .ok (.iload_n 2, 1) := by decide +kernel
theorem dJ7_fill_53178_6 : decode cJ7_fill_53178 6 = .ok (.iload_n 3, 1) := by decide +kernel
theorem dJ7_fill_53178_7 : decode cJ7_fill_53178 7 = .ok (.if_icmp .ge 13, 3) := by decide +kernel
theorem dJ7_fill_53178_10 : decode cJ7_fill_53178 10 = .ok (.aload_n 0, 1) := by decide +kernel
theorem dJ7_fill_53178_11 : decode cJ7_fill_53178 11 = .ok (.iload_n 2, 1) := by decide +kernel
theorem dJ7_fill_53178_12 : decode cJ7_fill_53178 12 = .ok (.iload_n 1, 1) := by decide +kernel
theorem dJ7_fill_53178_13 : decode cJ7_fill_53178 13 = .ok (.iastore, 1) := by decide +kernel
theorem dJ7_fill_53178_14 : decode cJ7_fill_53178 14 = .ok (.iinc 2 1, 3) := by decide +kernel
theorem dJ7_fill_53178_17 : decode cJ7_fill_53178 17 = .ok (.goto (-12), 3) := by decide +kernel
theorem dJ7_fill_53178_20 : decode cJ7_fill_53178 20 = .ok (.return_, 1) := by decide +kernel
theorem dJ7_fill_d0a16_0 : decode cJ7_fill_d0a16 0 = .ok (.iconst 0, 1) := by decide +kernel
theorem dJ7_fill_d0a16_1 : decode cJ7_fill_d0a16 1 = .ok (.istore_n 3, 1) := by decide +kernel
theorem dJ7_fill_d0a16_2 : decode cJ7_fill_d0a16 2 = .ok (.aload_n 0, 1) := by decide +kernel
theorem dJ7_fill_d0a16_3 : decode cJ7_fill_d0a16 3 = .ok (.arraylength, 1) := by decide +kernel
theorem dJ7_fill_d0a16_4 : decode cJ7_fill_d0a16 4 = .ok (.istore 4, 2) := by decide +kernel
theorem dJ7_fill_d0a16_6 : decode cJ7_fill_d0a16 6 = .ok (.iload_n 3, 1) := by decide +kernel
theorem dJ7_fill_d0a16_7 : decode cJ7_fill_d0a16 7 = .ok (.iload 4, 2) := by decide +kernel
theorem dJ7_fill_d0a16_9 : decode cJ7_fill_d0a16 9 = .ok (.if_icmp .ge 13, 3) := by decide +kernel
theorem dJ7_fill_d0a16_12 : decode cJ7_fill_d0a16 12 = .ok (.aload_n 0, 1) := by decide +kernel
theorem dJ7_fill_d0a16_13 : decode cJ7_fill_d0a16 13 = .ok (.iload_n 3, 1) := by decide +kernel
theorem dJ7_fill_d0a16_14 : decode cJ7_fill_d0a16 14 = .ok (.lload_n 1, 1) := by decide +kernel
theorem dJ7_fill_d0a16_15 : decode cJ7_fill_d0a16 15 = .ok (.lastore, 1) := by decide +kernel
theorem dJ7_fill_d0a16_16 : decode cJ7_fill_d0a16 16 = .ok (.iinc 3 1, 3) := by decide +kernel
theorem dJ7_fill_d0a16_19 : decode cJ7_fill_d0a16 19 = .ok (.goto (-13), 3) := by decide +kernel
theorem dJ7_fill_d0a16_22 : decode cJ7_fill_d0a16 22 = .ok (.return_, 1) := by decide +kernel
theorem dX11_isBetween_0 : decode cX11_isBetween 0 = .ok (.iload_n 0, 1) := by decide +kernel
theorem dX11_isBetween_1 : decode cX11_isBetween 1 = .ok (.iload_n 1, 1) := by decide +kernel
theorem dX11_isBetween_2 : decode cX11_isBetween 2 = .ok (.if_icmp .lt 12, 3) := by decide +kernel
theorem dX11_isBetween_5 : decode cX11_isBetween 5 = .ok (.iload_n 0, 1) := by decide +kernel
theorem dX11_isBetween_6 : decode cX11_isBetween 6 = .ok (.iload_n 2, 1) := by decide +kernel
theorem dX11_isBetween_7 : decode cX11_isBetween 7 = .ok (.if_icmp .gt 7, 3) := by decide +kernel
theorem dX11_isBetween_10 : decode cX11_isBetween 10 = .ok (.iconst 1, 1) := by decide +kernel
theorem dX11_isBetween_11 : decode cX11_isBetween 11 = .ok (.goto 4, 3) := by decide +kernel
theorem dX11_isBetween_14 : decode cX11_isBetween 14 = .ok (.iconst 0, 1) := by decide +kernel
theorem dX11_isBetween_15 : decode cX11_isBetween 15 = .ok (.ireturn, 1) := by decide +kernel
theorem dX11_isWeek_0 : decode cX11_isWeek 0 = .ok (.iload_n 0, 1) := by decide +kernel
theorem dX11_isWeek_1 : decode cX11_isWeek 1 = .ok (.iconst 0, 1) := by decide +kernel
theorem dX11_isWeek_2 : decode cX11_isWeek 2 = .ok (.bipush 39, 2) := by decide +kernel
theorem dX11_isWeek_4 : decode cX11_isWeek 4 = .ok (.invokestatic 131, 3) := by decide +kernel
theorem dX11_isWeek_7 : decode cX11_isWeek 7 = .ok (.ireturn, 1) := by decide +kernel
theorem dX12_isWeek_0 : decode cX12_isWeek 0 = .ok (.iload_n 0, 1) := by decide +kernel
theorem dX12_isWeek_1 : decode cX12_isWeek 1 = .ok (.ifCond .lt 13, 3) := by decide +kernel
theorem dX12_isWeek_4 : decode cX12_isWeek 4 = .ok (.iload_n 0, 1) := by decide +kernel
theorem dX12_isWeek_5 : decode cX12_isWeek 5 = .ok (.bipush 39, 2) := by decide +kernel
theorem dX12_isWeek_7 : decode cX12_isWeek 7 = .ok (.if_icmp .gt 7, 3) := by decide +kernel
theorem dX12_isWeek_10 : decode cX12_isWeek 10 = .ok (.iconst 1, 1) := by decide +kernel
theorem dX12_isWeek_11 : decode cX12_isWeek 11 = .ok (.goto 4, 3) := by decide +kernel
theorem dX12_isWeek_14 : decode cX12_isWeek 14 = .ok (.iconst 0, 1) := by decide +kernel
theorem dX12_isWeek_15 : decode cX12_isWeek 15 = .ok (.ireturn, 1) := by decide +kernel
theorem dX12_within_0 : decode cX12_within 0 = .ok (.iload_n 0, 1) := by decide +kernel
theorem dX12_within_1 : decode cX12_within 1 = .ok (.iload_n 1, 1) := by decide +kernel
theorem dX12_within_2 : decode cX12_within 2 = .ok (.if_icmp .lt 12, 3) := by decide +kernel
theorem dX12_within_5 : decode cX12_within 5 = .ok (.iload_n 0, 1) := by decide +kernel
theorem dX12_within_6 : decode cX12_within 6 = .ok (.iload_n 2, 1) := by decide +kernel
theorem dX12_within_7 : decode cX12_within 7 = .ok (.if_icmp .gt 7, 3) := by decide +kernel
theorem dX12_within_10 : decode cX12_within 10 = .ok (.iconst 1, 1) := by decide +kernel
theorem dX12_within_11 : decode cX12_within 11 = .ok (.goto 4, 3) := by decide +kernel
theorem dX12_within_14 : decode cX12_within 14 = .ok (.iconst 0, 1) := by decide +kernel
theorem dX12_within_15 : decode cX12_within 15 = .ok (.ireturn, 1) := by decide +kernel
set_option maxHeartbeats 4000000 in
set_option maxRecDepth 100000 in
theorem c_isBetween (l : Launch) (D : va_G) (cI cJ cZ cB : ClassId) (cO : ClassId) (v lo hi : Int32) :
    CI l D [(cI, .int), (cJ, .long), (cZ, .boolean), (cB, .byte), (cO, .object "LuckLinks$World")] yX11_isBetween cX11_isBetween 3 (some .boolean) ({ frames := 0, cells := 0, slots := 0, locals := 0 } : Room) [.int v, .int lo, .int hi] [] (fun (r : Int32) (u : Unit) => (r = (1 : Int32) ∧ (lo.toInt ≤ v.toInt ∧ v.toInt ≤ hi.toInt)) ∨ (r = (0 : Int32) ∧ (v.toInt < lo.toInt ∨ hi.toInt < v.toInt))) (fun (_ : Unit) => []) := by
  intro sz
  refine body_of (y := yX11_isBetween) (cc := cX11_isBetween) (maxL := 3) (ret := (some .boolean)) (rm := ({ frames := 0, cells := 0, slots := 0, locals := 0 } : Room)) (wc := []) (tys := [(cI, .int), (cJ, .long), (cZ, .boolean), (cB, .byte), (cO, .object "LuckLinks$World")]) (D := D) (sz := sz) (own := RX11) (av := [.int v, .int lo, .int hi]) (Qc := fun A => va_Qi (fun (r : Int32) (u : Unit) => (r = (1 : Int32) ∧ (lo.toInt ≤ v.toInt ∧ v.toInt ≤ hi.toInt)) ∨ (r = (0 : Int32) ∧ (v.toInt < lo.toInt ∨ hi.toInt < v.toInt))) (fun u t => Aft D A ((fun (_ : Unit) => []) u) t) A) (by decide) rfl (Nat.le_of_ble_eq_true rfl) (fun p e s m below meth c A ls C hr hlk hin X hl => ?_)
  have hx := C.1
  have hb := C.2.1
  have hown := C.2.2.2.1
  have hts := C.2.2.2.2.1
  have hl : lv_has ls 3 [(0, .int v), (1, .int lo), (2, .int hi)] := hl
  show W p l e _ s m _ below meth c s.heap [] 0 0 (MQ below (va_Qi (fun (r : Int32) (u : Unit) => (r = (1 : Int32) ∧ (lo.toInt ≤ v.toInt ∧ v.toInt ≤ hi.toInt)) ∨ (r = (0 : Int32) ∧ (v.toInt < lo.toInt ∨ hi.toInt < v.toInt))) (fun u t => Aft D A ((fun (_ : Unit) => []) u) t) A) ([.int v, .int lo, .int hi] : List Value).toArray s 0 0 A) (F0 m 0 ls [])
  have X : Wd D A s [] s.heap [] := X
  obtain ⟨H, locs, eH, eL⟩ : ∃ H locs, H = s.heap ∧ locs = ([] : List Loc) := ⟨_, _, rfl, rfl⟩
  rw [← eH, ← eL] at X ⊢
  clear eH eL
  refine lv_iload_n hx hb dX11_isBetween_0 rfl (lv_at hl 0 rfl) ?_
  refine lv_iload_n hx hb dX11_isBetween_1 rfl (lv_at hl 1 rfl) ?_
  refine lv_icmp_lt (tgt := 14) hx hb dX11_isBetween_2 (by decide) (fun c_1 => ?_) (fun c_1 => ?_)
  · have fc_1 : (v).toInt < (lo).toInt := i_lt c_1
    refine lv_iconst (v := (0 : Int32)) hx hb dX11_isBetween_14 (by decide) ?_
    exact x_iret C X hr hlk (v := (0 : Int32)) (by first | rfl | decide) (()) [] (by decide) rfl (Or.inr (⟨rfl, by omega⟩)) (Nat.le_of_ble_eq_true rfl) (Nat.le_of_ble_eq_true rfl) dX11_isBetween_15
  · have fc_1 : (lo).toInt ≤ (v).toInt := i_nlt c_1
    refine lv_iload_n hx hb dX11_isBetween_5 rfl (lv_at hl 0 rfl) ?_
    refine lv_iload_n hx hb dX11_isBetween_6 rfl (lv_at hl 2 rfl) ?_
    refine lv_icmp_gt (tgt := 14) hx hb dX11_isBetween_7 (by decide) (fun c_2 => ?_) (fun c_2 => ?_)
    · have fc_2 : (hi).toInt < (v).toInt := i_lt c_2
      refine lv_iconst (v := (0 : Int32)) hx hb dX11_isBetween_14 (by decide) ?_
      exact x_iret C X hr hlk (v := (0 : Int32)) (by first | rfl | decide) (()) [] (by decide) rfl (Or.inr (⟨rfl, by omega⟩)) (Nat.le_of_ble_eq_true rfl) (Nat.le_of_ble_eq_true rfl) dX11_isBetween_15
    · have fc_2 : (v).toInt ≤ (hi).toInt := i_nlt c_2
      refine lv_iconst (v := (1 : Int32)) hx hb dX11_isBetween_10 (by decide) ?_
      refine lv_goto (tgt := 15) hx hb dX11_isBetween_11 (by decide) ?_
      exact x_iret C X hr hlk (v := (1 : Int32)) (by first | rfl | decide) (()) [] (by decide) rfl (Or.inl (⟨rfl, by omega⟩)) (Nat.le_of_ble_eq_true rfl) (Nat.le_of_ble_eq_true rfl) dX11_isBetween_15
set_option maxHeartbeats 4000000 in
set_option maxRecDepth 100000 in
theorem c_within (l : Launch) (D : va_G) (cI cJ cZ cB : ClassId) (cO : ClassId) (v lo hi : Int32) :
    CI l D [(cI, .int), (cJ, .long), (cZ, .boolean), (cB, .byte), (cO, .object "LuckLinks$World")] yX12_within cX12_within 3 (some .boolean) ({ frames := 0, cells := 0, slots := 0, locals := 0 } : Room) [.int v, .int lo, .int hi] [] (fun (r : Int32) (u : Unit) => (r = (1 : Int32) ∧ (lo.toInt ≤ v.toInt ∧ v.toInt ≤ hi.toInt)) ∨ (r = (0 : Int32) ∧ (v.toInt < lo.toInt ∨ hi.toInt < v.toInt))) (fun (_ : Unit) => []) := by
  intro sz
  refine body_of (y := yX12_within) (cc := cX12_within) (maxL := 3) (ret := (some .boolean)) (rm := ({ frames := 0, cells := 0, slots := 0, locals := 0 } : Room)) (wc := []) (tys := [(cI, .int), (cJ, .long), (cZ, .boolean), (cB, .byte), (cO, .object "LuckLinks$World")]) (D := D) (sz := sz) (own := RX12) (av := [.int v, .int lo, .int hi]) (Qc := fun A => va_Qi (fun (r : Int32) (u : Unit) => (r = (1 : Int32) ∧ (lo.toInt ≤ v.toInt ∧ v.toInt ≤ hi.toInt)) ∨ (r = (0 : Int32) ∧ (v.toInt < lo.toInt ∨ hi.toInt < v.toInt))) (fun u t => Aft D A ((fun (_ : Unit) => []) u) t) A) (by decide) rfl (Nat.le_of_ble_eq_true rfl) (fun p e s m below meth c A ls C hr hlk hin X hl => ?_)
  have hx := C.1
  have hb := C.2.1
  have hown := C.2.2.2.1
  have hts := C.2.2.2.2.1
  have hl : lv_has ls 3 [(0, .int v), (1, .int lo), (2, .int hi)] := hl
  show W p l e _ s m _ below meth c s.heap [] 0 0 (MQ below (va_Qi (fun (r : Int32) (u : Unit) => (r = (1 : Int32) ∧ (lo.toInt ≤ v.toInt ∧ v.toInt ≤ hi.toInt)) ∨ (r = (0 : Int32) ∧ (v.toInt < lo.toInt ∨ hi.toInt < v.toInt))) (fun u t => Aft D A ((fun (_ : Unit) => []) u) t) A) ([.int v, .int lo, .int hi] : List Value).toArray s 0 0 A) (F0 m 0 ls [])
  have X : Wd D A s [] s.heap [] := X
  obtain ⟨H, locs, eH, eL⟩ : ∃ H locs, H = s.heap ∧ locs = ([] : List Loc) := ⟨_, _, rfl, rfl⟩
  rw [← eH, ← eL] at X ⊢
  clear eH eL
  refine lv_iload_n hx hb dX12_within_0 rfl (lv_at hl 0 rfl) ?_
  refine lv_iload_n hx hb dX12_within_1 rfl (lv_at hl 1 rfl) ?_
  refine lv_icmp_lt (tgt := 14) hx hb dX12_within_2 (by decide) (fun c_1 => ?_) (fun c_1 => ?_)
  · have fc_1 : (v).toInt < (lo).toInt := i_lt c_1
    refine lv_iconst (v := (0 : Int32)) hx hb dX12_within_14 (by decide) ?_
    exact x_iret C X hr hlk (v := (0 : Int32)) (by first | rfl | decide) (()) [] (by decide) rfl (Or.inr (⟨rfl, by omega⟩)) (Nat.le_of_ble_eq_true rfl) (Nat.le_of_ble_eq_true rfl) dX12_within_15
  · have fc_1 : (lo).toInt ≤ (v).toInt := i_nlt c_1
    refine lv_iload_n hx hb dX12_within_5 rfl (lv_at hl 0 rfl) ?_
    refine lv_iload_n hx hb dX12_within_6 rfl (lv_at hl 2 rfl) ?_
    refine lv_icmp_gt (tgt := 14) hx hb dX12_within_7 (by decide) (fun c_2 => ?_) (fun c_2 => ?_)
    · have fc_2 : (hi).toInt < (v).toInt := i_lt c_2
      refine lv_iconst (v := (0 : Int32)) hx hb dX12_within_14 (by decide) ?_
      exact x_iret C X hr hlk (v := (0 : Int32)) (by first | rfl | decide) (()) [] (by decide) rfl (Or.inr (⟨rfl, by omega⟩)) (Nat.le_of_ble_eq_true rfl) (Nat.le_of_ble_eq_true rfl) dX12_within_15
    · have fc_2 : (v).toInt ≤ (hi).toInt := i_nlt c_2
      refine lv_iconst (v := (1 : Int32)) hx hb dX12_within_10 (by decide) ?_
      refine lv_goto (tgt := 15) hx hb dX12_within_11 (by decide) ?_
      exact x_iret C X hr hlk (v := (1 : Int32)) (by first | rfl | decide) (()) [] (by decide) rfl (Or.inl (⟨rfl, by omega⟩)) (Nat.le_of_ble_eq_true rfl) (Nat.le_of_ble_eq_true rfl) dX12_within_15
set_option maxHeartbeats 4000000 in
set_option maxRecDepth 100000 in
theorem c_isWeek (l : Launch) (D : va_G) (cI cJ cZ cB : ClassId) (cO : ClassId) (w : Int32) :
    CI l D [(cI, .int), (cJ, .long), (cZ, .boolean), (cB, .byte), (cO, .object "LuckLinks$World")] yX11_isWeek cX11_isWeek 1 (some .boolean) ({ frames := 1, cells := 0, slots := 0, locals := 22 } : Room) [.int w] [] (fun (r : Int32) (u : Unit) => (r = (1 : Int32) ∧ (0 ≤ w.toInt ∧ w.toInt ≤ 39)) ∨ (r = (0 : Int32) ∧ (w.toInt < 0 ∨ 39 < w.toInt))) (fun (_ : Unit) => []) := by
  intro sz
  refine body_of (y := yX11_isWeek) (cc := cX11_isWeek) (maxL := 1) (ret := (some .boolean)) (rm := ({ frames := 1, cells := 0, slots := 0, locals := 22 } : Room)) (wc := []) (tys := [(cI, .int), (cJ, .long), (cZ, .boolean), (cB, .byte), (cO, .object "LuckLinks$World")]) (D := D) (sz := sz) (own := RX11) (av := [.int w]) (Qc := fun A => va_Qi (fun (r : Int32) (u : Unit) => (r = (1 : Int32) ∧ (0 ≤ w.toInt ∧ w.toInt ≤ 39)) ∨ (r = (0 : Int32) ∧ (w.toInt < 0 ∨ 39 < w.toInt))) (fun u t => Aft D A ((fun (_ : Unit) => []) u) t) A) (by decide) rfl (Nat.le_of_ble_eq_true rfl) (fun p e s m below meth c A ls C hr hlk hin X hl => ?_)
  have hx := C.1
  have hb := C.2.1
  have hown := C.2.2.2.1
  have hts := C.2.2.2.2.1
  have hl : lv_has ls 1 [(0, .int w)] := hl
  show W p l e _ s m _ below meth c s.heap [] 0 0 (MQ below (va_Qi (fun (r : Int32) (u : Unit) => (r = (1 : Int32) ∧ (0 ≤ w.toInt ∧ w.toInt ≤ 39)) ∨ (r = (0 : Int32) ∧ (w.toInt < 0 ∨ 39 < w.toInt))) (fun u t => Aft D A ((fun (_ : Unit) => []) u) t) A) ([.int w] : List Value).toArray s 0 0 A) (F0 m 0 ls [])
  have X : Wd D A s [] s.heap [] := X
  obtain ⟨H, locs, eH, eL⟩ : ∃ H locs, H = s.heap ∧ locs = ([] : List Loc) := ⟨_, _, rfl, rfl⟩
  rw [← eH, ← eL] at X ⊢
  clear eH eL
  refine lv_iload_n hx hb dX11_isWeek_0 rfl (lv_at hl 0 rfl) ?_
  refine lv_iconst (v := (0 : Int32)) hx hb dX11_isWeek_1 (by decide) ?_
  refine lv_bipush (v := (39 : Int32)) hx hb dX11_isWeek_2 (by decide) ?_
  refine x_cS (own := RX11) (wr := []) (As := [.int w, .int (0 : Int32), .int (39 : Int32)]) C X hl.1 (c_isBetween l D cI cJ cZ cB cO w (0 : Int32) (39 : Int32)) [] [] ⟨rfl, rfl, by decide, by decide, by decide⟩ k_12_5 k_12_6 k_1_2 k_12_7 (n := 3) (by decide +kernel) ⟨Nat.le_of_ble_eq_true rfl, Nat.le_of_ble_eq_true rfl⟩ rfl rfl (Nat.le_of_ble_eq_true rfl) dX11_isWeek_4 ⟨Nat.le_of_ble_eq_true rfl, Nat.le_of_ble_eq_true rfl⟩ (fun r_2 u_1 H locs w_3 X => ?_)
  have X : Wd D A s [] H locs := X
  refine W.widen (k := 0) (n := 0) (Nat.le_of_ble_eq_true rfl) (Nat.le_of_ble_eq_true rfl) ?_
  obtain ⟨rfl, fw_3⟩ | ⟨rfl, fw_3⟩ : (r_2 = (1 : Int32) ∧ ((0 : Int) ≤ (w).toInt ∧ (w).toInt ≤ (39 : Int))) ∨ (r_2 = (0 : Int32) ∧ ((w).toInt < (0 : Int) ∨ (39 : Int) < (w).toInt)) := w_3
  · exact x_iret C X hr hlk (v := (1 : Int32)) (by first | rfl | decide) (()) [] (by decide) rfl (Or.inl (⟨rfl, by omega⟩)) (Nat.le_of_ble_eq_true rfl) (Nat.le_of_ble_eq_true rfl) dX11_isWeek_7
  · exact x_iret C X hr hlk (v := (0 : Int32)) (by first | rfl | decide) (()) [] (by decide) rfl (Or.inr (⟨rfl, by omega⟩)) (Nat.le_of_ble_eq_true rfl) (Nat.le_of_ble_eq_true rfl) dX11_isWeek_7
set_option maxHeartbeats 4000000 in
set_option maxRecDepth 100000 in
theorem c_isWeekM (l : Launch) (D : va_G) (cI cJ cZ cB : ClassId) (cO : ClassId) (w : Int32) :
    CI l D [(cI, .int), (cJ, .long), (cZ, .boolean), (cB, .byte), (cO, .object "LuckLinks$World")] yX12_isWeek cX12_isWeek 1 (some .boolean) ({ frames := 0, cells := 0, slots := 0, locals := 0 } : Room) [.int w] [] (fun (r : Int32) (u : Unit) => (r = (1 : Int32) ∧ (0 ≤ w.toInt ∧ w.toInt ≤ 39)) ∨ (r = (0 : Int32) ∧ (w.toInt < 0 ∨ 39 < w.toInt))) (fun (_ : Unit) => []) := by
  intro sz
  refine body_of (y := yX12_isWeek) (cc := cX12_isWeek) (maxL := 1) (ret := (some .boolean)) (rm := ({ frames := 0, cells := 0, slots := 0, locals := 0 } : Room)) (wc := []) (tys := [(cI, .int), (cJ, .long), (cZ, .boolean), (cB, .byte), (cO, .object "LuckLinks$World")]) (D := D) (sz := sz) (own := RX12) (av := [.int w]) (Qc := fun A => va_Qi (fun (r : Int32) (u : Unit) => (r = (1 : Int32) ∧ (0 ≤ w.toInt ∧ w.toInt ≤ 39)) ∨ (r = (0 : Int32) ∧ (w.toInt < 0 ∨ 39 < w.toInt))) (fun u t => Aft D A ((fun (_ : Unit) => []) u) t) A) (by decide) rfl (Nat.le_of_ble_eq_true rfl) (fun p e s m below meth c A ls C hr hlk hin X hl => ?_)
  have hx := C.1
  have hb := C.2.1
  have hown := C.2.2.2.1
  have hts := C.2.2.2.2.1
  have hl : lv_has ls 1 [(0, .int w)] := hl
  show W p l e _ s m _ below meth c s.heap [] 0 0 (MQ below (va_Qi (fun (r : Int32) (u : Unit) => (r = (1 : Int32) ∧ (0 ≤ w.toInt ∧ w.toInt ≤ 39)) ∨ (r = (0 : Int32) ∧ (w.toInt < 0 ∨ 39 < w.toInt))) (fun u t => Aft D A ((fun (_ : Unit) => []) u) t) A) ([.int w] : List Value).toArray s 0 0 A) (F0 m 0 ls [])
  have X : Wd D A s [] s.heap [] := X
  obtain ⟨H, locs, eH, eL⟩ : ∃ H locs, H = s.heap ∧ locs = ([] : List Loc) := ⟨_, _, rfl, rfl⟩
  rw [← eH, ← eL] at X ⊢
  clear eH eL
  refine lv_iload_n hx hb dX12_isWeek_0 rfl (lv_at hl 0 rfl) ?_
  refine lv_if_lt (tgt := 14) hx hb dX12_isWeek_1 (by decide) (fun c_1 => ?_) (fun c_1 => ?_)
  · have fc_1 : (w).toInt < (0 : Int) := i_lt c_1
    refine lv_iconst (v := (0 : Int32)) hx hb dX12_isWeek_14 (by decide) ?_
    exact x_iret C X hr hlk (v := (0 : Int32)) (by first | rfl | decide) (()) [] (by decide) rfl (Or.inr (⟨rfl, by omega⟩)) (Nat.le_of_ble_eq_true rfl) (Nat.le_of_ble_eq_true rfl) dX12_isWeek_15
  · have fc_1 : (0 : Int) ≤ (w).toInt := i_nlt c_1
    refine lv_iload_n hx hb dX12_isWeek_4 rfl (lv_at hl 0 rfl) ?_
    refine lv_bipush (v := (39 : Int32)) hx hb dX12_isWeek_5 (by decide) ?_
    refine lv_icmp_gt (tgt := 14) hx hb dX12_isWeek_7 (by decide) (fun c_2 => ?_) (fun c_2 => ?_)
    · have fc_2 : (39 : Int) < (w).toInt := i_lt c_2
      refine lv_iconst (v := (0 : Int32)) hx hb dX12_isWeek_14 (by decide) ?_
      exact x_iret C X hr hlk (v := (0 : Int32)) (by first | rfl | decide) (()) [] (by decide) rfl (Or.inr (⟨rfl, by omega⟩)) (Nat.le_of_ble_eq_true rfl) (Nat.le_of_ble_eq_true rfl) dX12_isWeek_15
    · have fc_2 : (w).toInt ≤ (39 : Int) := i_nlt c_2
      refine lv_iconst (v := (1 : Int32)) hx hb dX12_isWeek_10 (by decide) ?_
      refine lv_goto (tgt := 15) hx hb dX12_isWeek_11 (by decide) ?_
      exact x_iret C X hr hlk (v := (1 : Int32)) (by first | rfl | decide) (()) [] (by decide) rfl (Or.inl (⟨rfl, by omega⟩)) (Nat.le_of_ble_eq_true rfl) (Nat.le_of_ble_eq_true rfl) dX12_isWeek_15
set_option maxHeartbeats 4000000 in
set_option maxRecDepth 100000 in
theorem c_fillI (l : Launch) (D : va_G) (cI cJ cZ cB : ClassId) (cO : ClassId) (a N : Nat) (f : Nat → Int32) (x : Int32) (hN : N < 2 ^ 31) :
    CV l D [(cI, .int), (cJ, .long), (cZ, .boolean), (cB, .byte), (cO, .object "LuckLinks$World")] yJ7_fill_53178 cJ7_fill_53178 4 ({ frames := 0, cells := 0, slots := 0, locals := 0 } : Room) [.ref a, .int x] [(a, .inl (cI, N, .inl (f)))] (fun (u : Unit) => (True)) (fun (_ : Unit) => [(a, .inl (cI, N, .inl (fun _ => x)))]) := by
  intro sz
  refine body_of (y := yJ7_fill_53178) (cc := cJ7_fill_53178) (maxL := 4) (ret := none) (rm := ({ frames := 0, cells := 0, slots := 0, locals := 0 } : Room)) (wc := [(a, .inl (cI, N, .inl (f)))]) (tys := [(cI, .int), (cJ, .long), (cZ, .boolean), (cB, .byte), (cO, .object "LuckLinks$World")]) (D := D) (sz := sz) (own := RJ7) (av := [.ref a, .int x]) (Qc := fun A => va_Qv (fun (u : Unit) => (True)) (fun u t => Aft D A ((fun (_ : Unit) => [(a, .inl (cI, N, .inl (fun _ => x)))]) u) t) A) (by decide) rfl (Nat.le_of_ble_eq_true rfl) (fun p e s m below meth c A ls C hr hlk hin X hl => ?_)
  have hx := C.1
  have hb := C.2.1
  have hown := C.2.2.2.1
  have hts := C.2.2.2.2.1
  have hl : lv_has ls 4 [(0, .ref a), (1, .int x)] := hl
  show W p l e _ s m _ below meth c s.heap [] 0 0 (MQ below (va_Qv (fun (u : Unit) => (True)) (fun u t => Aft D A ((fun (_ : Unit) => [(a, .inl (cI, N, .inl (fun _ => x)))]) u) t) A) ([.ref a, .int x] : List Value).toArray s 0 0 A) (F0 m 0 ls [])
  have X : Wd D A s [(a, .inl (cI, N, .inl (f)))] s.heap [] := X
  obtain ⟨H, locs, eH, eL⟩ : ∃ H locs, H = s.heap ∧ locs = ([] : List Loc) := ⟨_, _, rfl, rfl⟩
  rw [← eH, ← eL] at X ⊢
  clear eH eL
  refine lv_iconst (v := (0 : Int32)) hx hb dJ7_fill_53178_0 (by decide) ?_
  refine lv_istore_n (lv' := [(2, .int (0 : Int32)), (0, .ref a), (1, .int x)]) hx hb dJ7_fill_53178_1 rfl hl (by decide) rfl (fun ls hl => ?_)
  refine lv_aload_n hx hb dJ7_fill_53178_2 rfl (lv_at hl 1 rfl) ?_
  refine x_alen C X 0 0 rfl rfl (v := (nI (N))) (rfl) dJ7_fill_53178_3 ?_
  refine lv_istore_n (lv' := [(3, .int (nI (N))), (2, .int (0 : Int32)), (0, .ref a), (1, .int x)]) hx hb dJ7_fill_53178_4 rfl hl (by decide) rfl (fun ls hl => ?_)
  have L5 : ∀ (n : Nat) (i : Nat) (g : Nat → Int32) (H : Heap) (locs : List Loc) (ls : Array Slot), (h1 : i ≤ N) → (h2 : ∀ j, j < i → g j = x) → N < i + n → Wd D A s [(a, .inl (cI, N, .inl (g)))] H locs → lv_has ls 4 [(3, .int (nI (N))), (2, .int (nI (i))), (0, .ref a), (1, .int x)] → W p l e ({ frames := 0, cells := 0, slots := 0, locals := 0 } : Room) s m ([.ref a, .int x] : List Value).toArray below meth c H locs 0 0 (MQ below (va_Qv (fun (u : Unit) => (True)) (fun u t => Aft D A ((fun (_ : Unit) => [(a, .inl (cI, N, .inl (fun _ => x)))]) u) t) A) ([.ref a, .int x] : List Value).toArray s 0 0 A) (F0 m 5 ls []) := by
    intro n
    induction n with
    | zero => intro i g H locs ls h1 h2 hn; exact absurd hn (by omega)
    | succ n ih =>
      intro i g H locs ls h1 h2 hn X hl
      have ih5 := ih
      refine lv_iload_n hx hb dJ7_fill_53178_5 rfl (lv_at hl 1 rfl) ?_
      refine lv_iload_n hx hb dJ7_fill_53178_6 rfl (lv_at hl 0 rfl) ?_
      refine lv_icmp_ge (tgt := 20) hx hb dJ7_fill_53178_7 (by decide) (fun c_1 => ?_) (fun c_1 => ?_)
      · have fc_1 : ((N : Nat) : Int) ≤ ((i : Nat) : Int) := (by have h9 := i_le c_1; simp only [nI_toInt (n := N) (by omega), nI_toInt (n := i) (by omega)] at h9; exact h9)
        have X := x_cng X 0 rfl (arr_eq _ _ (g := fun _ => x) (fun j h => h2 j (by omega)))
        have X : Wd D A s [(a, .inl (cI, N, .inl (fun _ => x)))] H locs := X
        exact x_vret C X hr hlk (()) [0] (by decide) rfl (trivial) (Nat.le_of_ble_eq_true rfl) (Nat.le_of_ble_eq_true rfl) dJ7_fill_53178_20
      · have fc_1 : ((i : Nat) : Int) < ((N : Nat) : Int) := (by have h9 := i_nle c_1; simp only [nI_toInt (n := N) (by omega), nI_toInt (n := i) (by omega)] at h9; exact h9)
        refine lv_aload_n hx hb dJ7_fill_53178_10 rfl (lv_at hl 2 rfl) ?_
        refine lv_iload_n hx hb dJ7_fill_53178_11 rfl (lv_at hl 1 rfl) ?_
        refine lv_iload_n hx hb dJ7_fill_53178_12 rfl (lv_at hl 3 rfl) ?_
        refine x_iast C X 0 0 rfl rfl (j := i) (nI_clamp (by omega)) (vp_in_nI (by omega) (by omega)) dJ7_fill_53178_13 (fun H locs X => ?_)
        have X : Wd D A s [(a, .inl (cI, N, .inl (upd (g) (i) (x))))] H locs := X
        refine lv_iinc (v := (nI (i + 1))) (lv' := [(2, .int (nI (i + 1))), (3, .int (nI (N))), (0, .ref a), (1, .int x)]) hx hb dJ7_fill_53178_14 hl (k := 1) rfl (nI_add _ 1) (by decide) rfl (fun ls hl => ?_)
        refine lv_goto (tgt := 5) hx hb dJ7_fill_53178_17 (by decide) ?_
        exact ih5  (i + 1) (upd (g) (i) (x)) H locs ls (by omega) (fun j h => by unfold upd; split; rfl; exact h2 j (by omega)) (by omega) (x_sub X [0] (by decide) rfl) (lv_sub hl [1, 0, 2, 3] rfl)
  exact L5 (N + 1) (0) (f) H locs ls (by omega) (fun j h => absurd h (by omega)) (by omega) (x_sub X [0] (by decide) rfl) (lv_sub hl [0, 1, 2, 3] rfl)
set_option maxHeartbeats 4000000 in
set_option maxRecDepth 100000 in
theorem c_fillJ (l : Launch) (D : va_G) (cI cJ cZ cB : ClassId) (cO : ClassId) (a N : Nat) (f : Nat → Int64) (x : Int64) (hN : N < 2 ^ 31) :
    CV l D [(cI, .int), (cJ, .long), (cZ, .boolean), (cB, .byte), (cO, .object "LuckLinks$World")] yJ7_fill_d0a16 cJ7_fill_d0a16 5 ({ frames := 0, cells := 0, slots := 0, locals := 0 } : Room) [.ref a, .long x] [(a, .inl (cJ, N, .inr (.inl (f))))] (fun (u : Unit) => (True)) (fun (_ : Unit) => [(a, .inl (cJ, N, .inr (.inl (fun _ => x))))]) := by
  intro sz
  refine body_of (y := yJ7_fill_d0a16) (cc := cJ7_fill_d0a16) (maxL := 5) (ret := none) (rm := ({ frames := 0, cells := 0, slots := 0, locals := 0 } : Room)) (wc := [(a, .inl (cJ, N, .inr (.inl (f))))]) (tys := [(cI, .int), (cJ, .long), (cZ, .boolean), (cB, .byte), (cO, .object "LuckLinks$World")]) (D := D) (sz := sz) (own := RJ7) (av := [.ref a, .long x]) (Qc := fun A => va_Qv (fun (u : Unit) => (True)) (fun u t => Aft D A ((fun (_ : Unit) => [(a, .inl (cJ, N, .inr (.inl (fun _ => x))))]) u) t) A) (by decide) rfl (Nat.le_of_ble_eq_true rfl) (fun p e s m below meth c A ls C hr hlk hin X hl => ?_)
  have hx := C.1
  have hb := C.2.1
  have hown := C.2.2.2.1
  have hts := C.2.2.2.2.1
  have hl : lv_has ls 5 [(0, .ref a), (1, .long x)] := hl
  show W p l e _ s m _ below meth c s.heap [] 0 0 (MQ below (va_Qv (fun (u : Unit) => (True)) (fun u t => Aft D A ((fun (_ : Unit) => [(a, .inl (cJ, N, .inr (.inl (fun _ => x))))]) u) t) A) ([.ref a, .long x] : List Value).toArray s 0 0 A) (F0 m 0 ls [])
  have X : Wd D A s [(a, .inl (cJ, N, .inr (.inl (f))))] s.heap [] := X
  obtain ⟨H, locs, eH, eL⟩ : ∃ H locs, H = s.heap ∧ locs = ([] : List Loc) := ⟨_, _, rfl, rfl⟩
  rw [← eH, ← eL] at X ⊢
  clear eH eL
  refine lv_iconst (v := (0 : Int32)) hx hb dJ7_fill_d0a16_0 (by decide) ?_
  refine lv_istore_n (lv' := [(3, .int (0 : Int32)), (0, .ref a), (1, .long x)]) hx hb dJ7_fill_d0a16_1 rfl hl (by decide) rfl (fun ls hl => ?_)
  refine lv_aload_n hx hb dJ7_fill_d0a16_2 rfl (lv_at hl 1 rfl) ?_
  refine x_alen C X 0 1 rfl rfl (v := (nI (N))) (rfl) dJ7_fill_d0a16_3 ?_
  refine lv_istore (lv' := [(4, .int (nI (N))), (3, .int (0 : Int32)), (0, .ref a), (1, .long x)]) hx hb dJ7_fill_d0a16_4 hl (by decide) rfl (fun ls hl => ?_)
  have L6 : ∀ (n : Nat) (i : Nat) (g : Nat → Int64) (H : Heap) (locs : List Loc) (ls : Array Slot), (h1 : i ≤ N) → (h2 : ∀ j, j < i → g j = x) → N < i + n → Wd D A s [(a, .inl (cJ, N, .inr (.inl (g))))] H locs → lv_has ls 5 [(4, .int (nI (N))), (3, .int (nI (i))), (0, .ref a), (1, .long x)] → W p l e ({ frames := 0, cells := 0, slots := 0, locals := 0 } : Room) s m ([.ref a, .long x] : List Value).toArray below meth c H locs 0 0 (MQ below (va_Qv (fun (u : Unit) => (True)) (fun u t => Aft D A ((fun (_ : Unit) => [(a, .inl (cJ, N, .inr (.inl (fun _ => x))))]) u) t) A) ([.ref a, .long x] : List Value).toArray s 0 0 A) (F0 m 6 ls []) := by
    intro n
    induction n with
    | zero => intro i g H locs ls h1 h2 hn; exact absurd hn (by omega)
    | succ n ih =>
      intro i g H locs ls h1 h2 hn X hl
      have ih6 := ih
      refine lv_iload_n hx hb dJ7_fill_d0a16_6 rfl (lv_at hl 1 rfl) ?_
      refine lv_iload hx hb dJ7_fill_d0a16_7 (lv_at hl 0 rfl) ?_
      refine lv_icmp_ge (tgt := 22) hx hb dJ7_fill_d0a16_9 (by decide) (fun c_1 => ?_) (fun c_1 => ?_)
      · have fc_1 : ((N : Nat) : Int) ≤ ((i : Nat) : Int) := (by have h9 := i_le c_1; simp only [nI_toInt (n := N) (by omega), nI_toInt (n := i) (by omega)] at h9; exact h9)
        have X := x_cng X 0 rfl (arr_eql _ _ (g := fun _ => x) (fun j h => h2 j (by omega)))
        have X : Wd D A s [(a, .inl (cJ, N, .inr (.inl (fun _ => x))))] H locs := X
        exact x_vret C X hr hlk (()) [0] (by decide) rfl (trivial) (Nat.le_of_ble_eq_true rfl) (Nat.le_of_ble_eq_true rfl) dJ7_fill_d0a16_22
      · have fc_1 : ((i : Nat) : Int) < ((N : Nat) : Int) := (by have h9 := i_nle c_1; simp only [nI_toInt (n := N) (by omega), nI_toInt (n := i) (by omega)] at h9; exact h9)
        refine lv_aload_n hx hb dJ7_fill_d0a16_12 rfl (lv_at hl 2 rfl) ?_
        refine lv_iload_n hx hb dJ7_fill_d0a16_13 rfl (lv_at hl 1 rfl) ?_
        refine lv_lload_n hx hb dJ7_fill_d0a16_14 rfl (lv_at hl 3 rfl) ?_
        refine x_last C X 0 1 rfl rfl (j := i) (nI_clamp (by omega)) (vp_in_nI (by omega) (by omega)) dJ7_fill_d0a16_15 (fun H locs X => ?_)
        have X : Wd D A s [(a, .inl (cJ, N, .inr (.inl (vp_updL (g) (i) (x)))))] H locs := X
        refine lv_iinc (v := (nI (i + 1))) (lv' := [(3, .int (nI (i + 1))), (4, .int (nI (N))), (0, .ref a), (1, .long x)]) hx hb dJ7_fill_d0a16_16 hl (k := 1) rfl (nI_add _ 1) (by decide) rfl (fun ls hl => ?_)
        refine lv_goto (tgt := 6) hx hb dJ7_fill_d0a16_19 (by decide) ?_
        exact ih6  (i + 1) (vp_updL (g) (i) (x)) H locs ls (by omega) (fun j h => by unfold vp_updL; split; rfl; exact h2 j (by omega)) (by omega) (x_sub X [0] (by decide) rfl) (lv_sub hl [1, 0, 2, 3] rfl)
  exact L6 (N + 1) (0) (f) H locs ls (by omega) (fun j h => absurd h (by omega)) (by omega) (x_sub X [0] (by decide) rfl) (lv_sub hl [0, 1, 2, 3] rfl)
end
section
theorem k_12_16 : Cond.methodLink RX10 62 yX10_putParts ∈ wsL_law := mr_12 _ (List.mem_of_getElem? (i := 16) rfl)
theorem k_12_17 : Cond.static yX10_putParts ∈ wsL_law := mr_12 _ (List.mem_of_getElem? (i := 17) rfl)
theorem k_12_18 : Cond.code yX10_putParts cX10_putParts 7 none ∈ wsL_law := mr_12 _ (List.mem_of_getElem? (i := 18) rfl)
theorem k_14_1 : Cond.static yX11_isWeek ∈ wsL_law := mr_14 _ (List.mem_of_getElem? (i := 1) rfl)
theorem k_14_2 : Cond.code yX11_isWeek cX11_isWeek 1 (some .boolean) ∈ wsL_law := mr_14 _ (List.mem_of_getElem? (i := 2) rfl)
theorem k_15_13 : Cond.methodLink RX10 96 yX10_slotOf ∈ wsL_law := mr_15 _ (List.mem_of_getElem? (i := 13) rfl)
theorem k_15_14 : Cond.static yX10_slotOf ∈ wsL_law := mr_15 _ (List.mem_of_getElem? (i := 14) rfl)
theorem k_15_15 : Cond.code yX10_slotOf cX10_slotOf 4 (some .int) ∈ wsL_law := mr_15 _ (List.mem_of_getElem? (i := 15) rfl)
theorem k_1_14 : Cond.initialized RX10 ∈ wsL_law := mr_1 _ (List.mem_of_getElem? (i := 14) rfl)
theorem k_3_17 : Cond.fieldLink RX10 9 "LuckLinks$World" "players" "I" ∈ wsL_law := mr_3 _ (List.mem_of_getElem? (i := 17) rfl)
theorem k_3_18 : Cond.fieldLink RX10 15 "LuckLinks$World" "gifts" "[I" ∈ wsL_law := mr_3 _ (List.mem_of_getElem? (i := 18) rfl)
theorem k_3_19 : Cond.fieldLink RX10 19 "LuckLinks$World" "courses" "I" ∈ wsL_law := mr_3 _ (List.mem_of_getElem? (i := 19) rfl)
theorem k_3_20 : Cond.fieldLink RX10 22 "LuckLinks$World" "courseStrokes" "[I" ∈ wsL_law := mr_3 _ (List.mem_of_getElem? (i := 20) rfl)
theorem k_3_21 : Cond.fieldLink RX10 25 "LuckLinks$World" "weekCourse" "[I" ∈ wsL_law := mr_3 _ (List.mem_of_getElem? (i := 21) rfl)
theorem k_3_23 : Cond.fieldLink RX10 31 "LuckLinks$World" "hours" "[I" ∈ wsL_law := mr_3 _ (List.mem_of_getElem? (i := 23) rfl)
theorem k_4_1 : Cond.fieldLink RX10 37 "LuckLinks$World" "dayRounds" "[I" ∈ wsL_law := mr_4 _ (List.mem_of_getElem? (i := 1) rfl)
theorem dX10_addCourse_0 : decode cX10_addCourse 0 = .ok (.aload_n 0, 1) := by decide +kernel
theorem dX10_addCourse_1 : decode cX10_addCourse 1 = .ok (.getfield 22, 3) := by decide +kernel
theorem dX10_addCourse_4 : decode cX10_addCourse 4 = .ok (.aload_n 0, 1) := by decide +kernel
theorem dX10_addCourse_5 : decode cX10_addCourse 5 = .ok (.getfield 19, 3) := by decide +kernel
theorem dX10_addCourse_8 : decode cX10_addCourse 8 = .ok (.iload_n 1, 1) := by decide +kernel
theorem dX10_addCourse_9 : decode cX10_addCourse 9 = .ok (.iload_n 2, 1) := by decide +kernel
theorem dX10_addCourse_10 : decode cX10_addCourse 10 = .ok (.iload_n 3, 1) := by decide +kernel
theorem dX10_addCourse_11 : decode cX10_addCourse 11 = .ok (.iload 4, 2) := by decide +kernel
theorem dX10_addCourse_13 : decode cX10_addCourse 13 = .ok (.invokestatic 62, 3) := by decide +kernel
theorem dX10_addCourse_16 : decode cX10_addCourse 16 = .ok (.aload_n 0, 1) := by decide +kernel
theorem dX10_addCourse_17 : decode cX10_addCourse 17 = .ok (.dup, 1) := by decide +kernel
theorem dX10_addCourse_18 : decode cX10_addCourse 18 = .ok (.getfield 19, 3) := by decide +kernel
theorem dX10_addCourse_21 : decode cX10_addCourse 21 = .ok (.iconst 1, 1) := by decide +kernel
theorem dX10_addCourse_22 : decode cX10_addCourse 22 = .ok (.iadd, 1) := by decide +kernel
theorem dX10_addCourse_23 : decode cX10_addCourse 23 = .ok (.putfield 19, 3) := by decide +kernel
theorem dX10_addCourse_26 : decode cX10_addCourse 26 = .ok (.aload_n 0, 1) := by decide +kernel
theorem dX10_addCourse_27 : decode cX10_addCourse 27 = .ok (.getfield 19, 3) := by decide +kernel
theorem dX10_addCourse_30 : decode cX10_addCourse 30 = .ok (.iconst 1, 1) := by decide +kernel
theorem dX10_addCourse_31 : decode cX10_addCourse 31 = .ok (.isub, 1) := by decide +kernel
theorem dX10_addCourse_32 : decode cX10_addCourse 32 = .ok (.ireturn, 1) := by decide +kernel
theorem dX10_addPlayer_0 : decode cX10_addPlayer 0 = .ok (.aload_n 0, 1) := by decide +kernel
theorem dX10_addPlayer_1 : decode cX10_addPlayer 1 = .ok (.getfield 15, 3) := by decide +kernel
theorem dX10_addPlayer_4 : decode cX10_addPlayer 4 = .ok (.aload_n 0, 1) := by decide +kernel
theorem dX10_addPlayer_5 : decode cX10_addPlayer 5 = .ok (.getfield 9, 3) := by decide +kernel
theorem dX10_addPlayer_8 : decode cX10_addPlayer 8 = .ok (.iload_n 1, 1) := by decide +kernel
theorem dX10_addPlayer_9 : decode cX10_addPlayer 9 = .ok (.iload_n 2, 1) := by decide +kernel
theorem dX10_addPlayer_10 : decode cX10_addPlayer 10 = .ok (.iload_n 3, 1) := by decide +kernel
theorem dX10_addPlayer_11 : decode cX10_addPlayer 11 = .ok (.iload 4, 2) := by decide +kernel
theorem dX10_addPlayer_13 : decode cX10_addPlayer 13 = .ok (.invokestatic 62, 3) := by decide +kernel
theorem dX10_addPlayer_16 : decode cX10_addPlayer 16 = .ok (.aload_n 0, 1) := by decide +kernel
theorem dX10_addPlayer_17 : decode cX10_addPlayer 17 = .ok (.dup, 1) := by decide +kernel
theorem dX10_addPlayer_18 : decode cX10_addPlayer 18 = .ok (.getfield 9, 3) := by decide +kernel
theorem dX10_addPlayer_21 : decode cX10_addPlayer 21 = .ok (.iconst 1, 1) := by decide +kernel
theorem dX10_addPlayer_22 : decode cX10_addPlayer 22 = .ok (.iadd, 1) := by decide +kernel
theorem dX10_addPlayer_23 : decode cX10_addPlayer 23 = .ok (.putfield 9, 3) := by decide +kernel
theorem dX10_addPlayer_26 : decode cX10_addPlayer 26 = .ok (.aload_n 0, 1) := by decide +kernel
theorem dX10_addPlayer_27 : decode cX10_addPlayer 27 = .ok (.getfield 9, 3) := by decide +kernel
theorem dX10_addPlayer_30 : decode cX10_addPlayer 30 = .ok (.iconst 1, 1) := by decide +kernel
theorem dX10_addPlayer_31 : decode cX10_addPlayer 31 = .ok (.isub, 1) := by decide +kernel
theorem dX10_addPlayer_32 : decode cX10_addPlayer 32 = .ok (.ireturn, 1) := by decide +kernel
theorem dX10_courseOf_0 : decode cX10_courseOf 0 = .ok (.iload_n 1, 1) := by decide +kernel
theorem dX10_courseOf_1 : decode cX10_courseOf 1 = .ok (.invokestatic 66, 3) := by decide +kernel
theorem dX10_courseOf_4 : decode cX10_courseOf 4 = .ok (.ifCond .eq 12, 3) := by decide +kernel
theorem dX10_courseOf_7 : decode cX10_courseOf 7 = .ok (.aload_n 0, 1) := by decide +kernel
theorem dX10_courseOf_8 : decode cX10_courseOf 8 = .ok (.getfield 25, 3) := by decide +kernel
theorem dX10_courseOf_11 : decode cX10_courseOf 11 = .ok (.iload_n 1, 1) := by decide +kernel
theorem dX10_courseOf_12 : decode cX10_courseOf 12 = .ok (.iaload, 1) := by decide +kernel
theorem dX10_courseOf_13 : decode cX10_courseOf 13 = .ok (.goto 4, 3) := by decide +kernel
theorem dX10_courseOf_16 : decode cX10_courseOf 16 = .ok (.iconst (-1), 1) := by decide +kernel
theorem dX10_courseOf_17 : decode cX10_courseOf 17 = .ok (.ireturn, 1) := by decide +kernel
theorem dX10_hasRound_0 : decode cX10_hasRound 0 = .ok (.iload_n 1, 1) := by decide +kernel
theorem dX10_hasRound_1 : decode cX10_hasRound 1 = .ok (.iload_n 2, 1) := by decide +kernel
theorem dX10_hasRound_2 : decode cX10_hasRound 2 = .ok (.iload_n 3, 1) := by decide +kernel
theorem dX10_hasRound_3 : decode cX10_hasRound 3 = .ok (.invokestatic 96, 3) := by decide +kernel
theorem dX10_hasRound_6 : decode cX10_hasRound 6 = .ok (.istore 4, 2) := by decide +kernel
theorem dX10_hasRound_8 : decode cX10_hasRound 8 = .ok (.iload 4, 2) := by decide +kernel
theorem dX10_hasRound_10 : decode cX10_hasRound 10 = .ok (.iconst (-1), 1) := by decide +kernel
theorem dX10_hasRound_11 : decode cX10_hasRound 11 = .ok (.if_icmp .eq 18, 3) := by decide +kernel
theorem dX10_hasRound_14 : decode cX10_hasRound 14 = .ok (.aload_n 0, 1) := by decide +kernel
theorem dX10_hasRound_15 : decode cX10_hasRound 15 = .ok (.getfield 31, 3) := by decide +kernel
theorem dX10_hasRound_18 : decode cX10_hasRound 18 = .ok (.iload 4, 2) := by decide +kernel
theorem dX10_hasRound_20 : decode cX10_hasRound 20 = .ok (.iaload, 1) := by decide +kernel
theorem dX10_hasRound_21 : decode cX10_hasRound 21 = .ok (.iconst (-1), 1) := by decide +kernel
theorem dX10_hasRound_22 : decode cX10_hasRound 22 = .ok (.if_icmp .eq 7, 3) := by decide +kernel
theorem dX10_hasRound_29 : decode cX10_hasRound 29 = .ok (.iconst 0, 1) := by decide +kernel
theorem dX10_hasRound_30 : decode cX10_hasRound 30 = .ok (.ireturn, 1) := by decide +kernel
theorem dX10_isPlayer_0 : decode cX10_isPlayer 0 = .ok (.iload_n 1, 1) := by decide +kernel
theorem dX10_isPlayer_1 : decode cX10_isPlayer 1 = .ok (.ifCond .lt 15, 3) := by decide +kernel
theorem dX10_isPlayer_4 : decode cX10_isPlayer 4 = .ok (.iload_n 1, 1) := by decide +kernel
theorem dX10_isPlayer_5 : decode cX10_isPlayer 5 = .ok (.aload_n 0, 1) := by decide +kernel
theorem dX10_isPlayer_6 : decode cX10_isPlayer 6 = .ok (.getfield 9, 3) := by decide +kernel
theorem dX10_isPlayer_9 : decode cX10_isPlayer 9 = .ok (.if_icmp .ge 7, 3) := by decide +kernel
theorem dX10_isPlayer_16 : decode cX10_isPlayer 16 = .ok (.iconst 0, 1) := by decide +kernel
theorem dX10_isPlayer_17 : decode cX10_isPlayer 17 = .ok (.ireturn, 1) := by decide +kernel
theorem dX10_putParts_0 : decode cX10_putParts 0 = .ok (.iload_n 1, 1) := by decide +kernel
theorem dX10_putParts_1 : decode cX10_putParts 1 = .ok (.iconst 4, 1) := by decide +kernel
theorem dX10_putParts_2 : decode cX10_putParts 2 = .ok (.imul, 1) := by decide +kernel
theorem dX10_putParts_3 : decode cX10_putParts 3 = .ok (.istore 6, 2) := by decide +kernel
theorem dX10_putParts_5 : decode cX10_putParts 5 = .ok (.iload 6, 2) := by decide +kernel
theorem dX10_putParts_7 : decode cX10_putParts 7 = .ok (.ifCond .lt 40, 3) := by decide +kernel
theorem dX10_putParts_10 : decode cX10_putParts 10 = .ok (.iload 6, 2) := by decide +kernel
theorem dX10_putParts_12 : decode cX10_putParts 12 = .ok (.iconst 3, 1) := by decide +kernel
theorem dX10_putParts_13 : decode cX10_putParts 13 = .ok (.iadd, 1) := by decide +kernel
theorem dX10_putParts_14 : decode cX10_putParts 14 = .ok (.aload_n 0, 1) := by decide +kernel
theorem dX10_putParts_15 : decode cX10_putParts 15 = .ok (.arraylength, 1) := by decide +kernel
theorem dX10_putParts_16 : decode cX10_putParts 16 = .ok (.if_icmp .ge 31, 3) := by decide +kernel
theorem dX10_putParts_19 : decode cX10_putParts 19 = .ok (.aload_n 0, 1) := by decide +kernel
theorem dX10_putParts_20 : decode cX10_putParts 20 = .ok (.iload 6, 2) := by decide +kernel
theorem dX10_putParts_22 : decode cX10_putParts 22 = .ok (.iload_n 2, 1) := by decide +kernel
theorem dX10_putParts_23 : decode cX10_putParts 23 = .ok (.iastore, 1) := by decide +kernel
theorem dX10_putParts_24 : decode cX10_putParts 24 = .ok (.aload_n 0, 1) := by decide +kernel
theorem dX10_putParts_25 : decode cX10_putParts 25 = .ok (.iload 6, 2) := by decide +kernel
theorem dX10_putParts_27 : decode cX10_putParts 27 = .ok (.iconst 1, 1) := by decide +kernel
theorem dX10_putParts_28 : decode cX10_putParts 28 = .ok (.iadd, 1) := by decide +kernel
theorem dX10_putParts_29 : decode cX10_putParts 29 = .ok (.iload_n 3, 1) := by decide +kernel
theorem dX10_putParts_30 : decode cX10_putParts 30 = .ok (.iastore, 1) := by decide +kernel
theorem dX10_putParts_31 : decode cX10_putParts 31 = .ok (.aload_n 0, 1) := by decide +kernel
theorem dX10_putParts_32 : decode cX10_putParts 32 = .ok (.iload 6, 2) := by decide +kernel
theorem dX10_putParts_34 : decode cX10_putParts 34 = .ok (.iconst 2, 1) := by decide +kernel
theorem dX10_putParts_35 : decode cX10_putParts 35 = .ok (.iadd, 1) := by decide +kernel
theorem dX10_putParts_36 : decode cX10_putParts 36 = .ok (.iload 4, 2) := by decide +kernel
theorem dX10_putParts_38 : decode cX10_putParts 38 = .ok (.iastore, 1) := by decide +kernel
theorem dX10_putParts_39 : decode cX10_putParts 39 = .ok (.aload_n 0, 1) := by decide +kernel
theorem dX10_putParts_40 : decode cX10_putParts 40 = .ok (.iload 6, 2) := by decide +kernel
theorem dX10_putParts_42 : decode cX10_putParts 42 = .ok (.iconst 3, 1) := by decide +kernel
theorem dX10_putParts_43 : decode cX10_putParts 43 = .ok (.iadd, 1) := by decide +kernel
theorem dX10_putParts_44 : decode cX10_putParts 44 = .ok (.iload 5, 2) := by decide +kernel
theorem dX10_putParts_46 : decode cX10_putParts 46 = .ok (.iastore, 1) := by decide +kernel
theorem dX10_putParts_47 : decode cX10_putParts 47 = .ok (.return_, 1) := by decide +kernel
theorem dX10_roundsOn_0 : decode cX10_roundsOn 0 = .ok (.iload_n 1, 1) := by decide +kernel
theorem dX10_roundsOn_1 : decode cX10_roundsOn 1 = .ok (.ifCond .lt 22, 3) := by decide +kernel
theorem dX10_roundsOn_4 : decode cX10_roundsOn 4 = .ok (.iload_n 1, 1) := by decide +kernel
theorem dX10_roundsOn_5 : decode cX10_roundsOn 5 = .ok (.bipush 40, 2) := by decide +kernel
theorem dX10_roundsOn_7 : decode cX10_roundsOn 7 = .ok (.if_icmp .ge 16, 3) := by decide +kernel
theorem dX10_roundsOn_10 : decode cX10_roundsOn 10 = .ok (.iload_n 2, 1) := by decide +kernel
theorem dX10_roundsOn_11 : decode cX10_roundsOn 11 = .ok (.ifCond .lt 12, 3) := by decide +kernel
theorem dX10_roundsOn_14 : decode cX10_roundsOn 14 = .ok (.iload_n 2, 1) := by decide +kernel
theorem dX10_roundsOn_15 : decode cX10_roundsOn 15 = .ok (.iconst 4, 1) := by decide +kernel
theorem dX10_roundsOn_16 : decode cX10_roundsOn 16 = .ok (.if_icmp .ge 7, 3) := by decide +kernel
theorem dX10_roundsOn_19 : decode cX10_roundsOn 19 = .ok (.iconst 1, 1) := by decide +kernel
theorem dX10_roundsOn_20 : decode cX10_roundsOn 20 = .ok (.goto 4, 3) := by decide +kernel
theorem dX10_roundsOn_23 : decode cX10_roundsOn 23 = .ok (.iconst 0, 1) := by decide +kernel
theorem dX10_roundsOn_24 : decode cX10_roundsOn 24 = .ok (.istore_n 3, 1) := by decide +kernel
theorem dX10_roundsOn_25 : decode cX10_roundsOn 25 = .ok (.iload_n 3, 1) := by decide +kernel
theorem dX10_roundsOn_26 : decode cX10_roundsOn 26 = .ok (.ifCond .eq 16, 3) := by decide +kernel
theorem dX10_roundsOn_29 : decode cX10_roundsOn 29 = .ok (.aload_n 0, 1) := by decide +kernel
theorem dX10_roundsOn_30 : decode cX10_roundsOn 30 = .ok (.getfield 37, 3) := by decide +kernel
theorem dX10_roundsOn_33 : decode cX10_roundsOn 33 = .ok (.iload_n 1, 1) := by decide +kernel
theorem dX10_roundsOn_34 : decode cX10_roundsOn 34 = .ok (.iconst 4, 1) := by decide +kernel
theorem dX10_roundsOn_35 : decode cX10_roundsOn 35 = .ok (.imul, 1) := by decide +kernel
theorem dX10_roundsOn_36 : decode cX10_roundsOn 36 = .ok (.iload_n 2, 1) := by decide +kernel
theorem dX10_roundsOn_37 : decode cX10_roundsOn 37 = .ok (.iadd, 1) := by decide +kernel
theorem dX10_roundsOn_38 : decode cX10_roundsOn 38 = .ok (.iaload, 1) := by decide +kernel
theorem dX10_roundsOn_39 : decode cX10_roundsOn 39 = .ok (.goto 4, 3) := by decide +kernel
theorem dX10_roundsOn_42 : decode cX10_roundsOn 42 = .ok (.iconst 0, 1) := by decide +kernel
theorem dX10_roundsOn_43 : decode cX10_roundsOn 43 = .ok (.ireturn, 1) := by decide +kernel
theorem dX10_slotOf_0 : decode cX10_slotOf 0 = .ok (.iload_n 0, 1) := by decide +kernel
theorem dX10_slotOf_1 : decode cX10_slotOf 1 = .ok (.ifCond .lt 32, 3) := by decide +kernel
theorem dX10_slotOf_4 : decode cX10_slotOf 4 = .ok (.iload_n 0, 1) := by decide +kernel
theorem dX10_slotOf_5 : decode cX10_slotOf 5 = .ok (.bipush 20, 2) := by decide +kernel
theorem dX10_slotOf_7 : decode cX10_slotOf 7 = .ok (.if_icmp .ge 26, 3) := by decide +kernel
theorem dX10_slotOf_10 : decode cX10_slotOf 10 = .ok (.iload_n 1, 1) := by decide +kernel
theorem dX10_slotOf_11 : decode cX10_slotOf 11 = .ok (.ifCond .lt 22, 3) := by decide +kernel
theorem dX10_slotOf_14 : decode cX10_slotOf 14 = .ok (.iload_n 1, 1) := by decide +kernel
theorem dX10_slotOf_15 : decode cX10_slotOf 15 = .ok (.bipush 40, 2) := by decide +kernel
theorem dX10_slotOf_17 : decode cX10_slotOf 17 = .ok (.if_icmp .ge 16, 3) := by decide +kernel
theorem dX10_slotOf_20 : decode cX10_slotOf 20 = .ok (.iload_n 2, 1) := by decide +kernel
theorem dX10_slotOf_21 : decode cX10_slotOf 21 = .ok (.ifCond .lt 12, 3) := by decide +kernel
theorem dX10_slotOf_24 : decode cX10_slotOf 24 = .ok (.iload_n 2, 1) := by decide +kernel
theorem dX10_slotOf_25 : decode cX10_slotOf 25 = .ok (.iconst 4, 1) := by decide +kernel
theorem dX10_slotOf_26 : decode cX10_slotOf 26 = .ok (.if_icmp .ge 7, 3) := by decide +kernel
theorem dX10_slotOf_29 : decode cX10_slotOf 29 = .ok (.iconst 1, 1) := by decide +kernel
theorem dX10_slotOf_30 : decode cX10_slotOf 30 = .ok (.goto 4, 3) := by decide +kernel
theorem dX10_slotOf_33 : decode cX10_slotOf 33 = .ok (.iconst 0, 1) := by decide +kernel
theorem dX10_slotOf_34 : decode cX10_slotOf 34 = .ok (.istore_n 3, 1) := by decide +kernel
theorem dX10_slotOf_35 : decode cX10_slotOf 35 = .ok (.iload_n 3, 1) := by decide +kernel
theorem dX10_slotOf_36 : decode cX10_slotOf 36 = .ok (.ifCond .eq 16, 3) := by decide +kernel
theorem dX10_slotOf_39 : decode cX10_slotOf 39 = .ok (.iload_n 1, 1) := by decide +kernel
theorem dX10_slotOf_40 : decode cX10_slotOf 40 = .ok (.iconst 4, 1) := by decide +kernel
theorem dX10_slotOf_41 : decode cX10_slotOf 41 = .ok (.imul, 1) := by decide +kernel
theorem dX10_slotOf_42 : decode cX10_slotOf 42 = .ok (.iload_n 2, 1) := by decide +kernel
theorem dX10_slotOf_43 : decode cX10_slotOf 43 = .ok (.iadd, 1) := by decide +kernel
theorem dX10_slotOf_44 : decode cX10_slotOf 44 = .ok (.bipush 20, 2) := by decide +kernel
theorem dX10_slotOf_46 : decode cX10_slotOf 46 = .ok (.imul, 1) := by decide +kernel
theorem dX10_slotOf_47 : decode cX10_slotOf 47 = .ok (.iload_n 0, 1) := by decide +kernel
theorem dX10_slotOf_48 : decode cX10_slotOf 48 = .ok (.iadd, 1) := by decide +kernel
theorem dX10_slotOf_49 : decode cX10_slotOf 49 = .ok (.goto 4, 3) := by decide +kernel
theorem dX10_slotOf_52 : decode cX10_slotOf 52 = .ok (.iconst (-1), 1) := by decide +kernel
theorem dX10_slotOf_53 : decode cX10_slotOf 53 = .ok (.ireturn, 1) := by decide +kernel
set_option maxHeartbeats 4000000 in
set_option maxRecDepth 100000 in
theorem c_isPlayer (l : Launch) (D : va_G) (cI cJ cZ cB : ClassId) (cO : ClassId) (w : Nat → Nat) (v : Int32) :
    CI l D [(cI, .int), (cJ, .long), (cZ, .boolean), (cB, .byte), (cO, .object "LuckLinks$World")] yX10_isPlayer cX10_isPlayer 2 (some .boolean) ({ frames := 0, cells := 0, slots := 0, locals := 0 } : Room) [.ref (w 0), .int v] [((w 0), .inr (10, [.int (0 : Int32), .ref (w 1), .int (0 : Int32), .ref (w 2), .ref (w 3), .int (0 : Int32), .ref (w 4), .ref (w 5), .ref (w 6), .ref (w 7), .ref (w 8), .long (1 : Int64)]))] (fun (r : Int32) (u : Unit) => (r = (0 : Int32) ∧ True)) (fun (_ : Unit) => [((w 0), .inr (10, [.int (0 : Int32), .ref (w 1), .int (0 : Int32), .ref (w 2), .ref (w 3), .int (0 : Int32), .ref (w 4), .ref (w 5), .ref (w 6), .ref (w 7), .ref (w 8), .long (1 : Int64)]))]) := by
  intro sz
  refine body_of (y := yX10_isPlayer) (cc := cX10_isPlayer) (maxL := 2) (ret := (some .boolean)) (rm := ({ frames := 0, cells := 0, slots := 0, locals := 0 } : Room)) (wc := [((w 0), .inr (10, [.int (0 : Int32), .ref (w 1), .int (0 : Int32), .ref (w 2), .ref (w 3), .int (0 : Int32), .ref (w 4), .ref (w 5), .ref (w 6), .ref (w 7), .ref (w 8), .long (1 : Int64)]))]) (tys := [(cI, .int), (cJ, .long), (cZ, .boolean), (cB, .byte), (cO, .object "LuckLinks$World")]) (D := D) (sz := sz) (own := RX10) (av := [.ref (w 0), .int v]) (Qc := fun A => va_Qi (fun (r : Int32) (u : Unit) => (r = (0 : Int32) ∧ True)) (fun u t => Aft D A ((fun (_ : Unit) => [((w 0), .inr (10, [.int (0 : Int32), .ref (w 1), .int (0 : Int32), .ref (w 2), .ref (w 3), .int (0 : Int32), .ref (w 4), .ref (w 5), .ref (w 6), .ref (w 7), .ref (w 8), .long (1 : Int64)]))]) u) t) A) (by decide) rfl (Nat.le_of_ble_eq_true rfl) (fun p e s m below meth c A ls C hr hlk hin X hl => ?_)
  have hx := C.1
  have hb := C.2.1
  have hown := C.2.2.2.1
  have hts := C.2.2.2.2.1
  have hl : lv_has ls 2 [(0, .ref (w 0)), (1, .int v)] := hl
  show W p l e _ s m _ below meth c s.heap [] 0 0 (MQ below (va_Qi (fun (r : Int32) (u : Unit) => (r = (0 : Int32) ∧ True)) (fun u t => Aft D A ((fun (_ : Unit) => [((w 0), .inr (10, [.int (0 : Int32), .ref (w 1), .int (0 : Int32), .ref (w 2), .ref (w 3), .int (0 : Int32), .ref (w 4), .ref (w 5), .ref (w 6), .ref (w 7), .ref (w 8), .long (1 : Int64)]))]) u) t) A) ([.ref (w 0), .int v] : List Value).toArray s 0 0 A) (F0 m 0 ls [])
  have X : Wd D A s [((w 0), .inr (10, [.int (0 : Int32), .ref (w 1), .int (0 : Int32), .ref (w 2), .ref (w 3), .int (0 : Int32), .ref (w 4), .ref (w 5), .ref (w 6), .ref (w 7), .ref (w 8), .long (1 : Int64)]))] s.heap [] := X
  obtain ⟨H, locs, eH, eL⟩ : ∃ H locs, H = s.heap ∧ locs = ([] : List Loc) := ⟨_, _, rfl, rfl⟩
  rw [← eH, ← eL] at X ⊢
  clear eH eL
  refine lv_iload_n hx hb dX10_isPlayer_0 rfl (lv_at hl 1 rfl) ?_
  refine lv_if_lt (tgt := 16) hx hb dX10_isPlayer_1 (by decide) (fun c_1 => ?_) (fun c_1 => ?_)
  · have fc_1 : (v).toInt < (0 : Int) := i_lt c_1
    refine lv_iconst (v := (0 : Int32)) hx hb dX10_isPlayer_16 (by decide) ?_
    exact x_iret C X hr hlk (v := (0 : Int32)) (by first | rfl | decide) (()) [0] (by decide) rfl (⟨rfl, trivial⟩) (Nat.le_of_ble_eq_true rfl) (Nat.le_of_ble_eq_true rfl) dX10_isPlayer_17
  · have fc_1 : (0 : Int) ≤ (v).toInt := i_nlt c_1
    refine lv_iload_n hx hb dX10_isPlayer_4 rfl (lv_at hl 1 rfl) ?_
    refine lv_aload_n hx hb dX10_isPlayer_5 rfl (lv_at hl 0 rfl) ?_
    refine x_get (own := RX10) (T := TX10) C X 0 rfl rfl 0 (by decide) k_3_17 rfl rfl (v := .int (0 : Int32)) rfl dX10_isPlayer_6 ?_
    refine lv_icmp_ge (tgt := 16) hx hb dX10_isPlayer_9 (by decide) (fun c_2 => ?_) (fun c_2 => by exfalso; have h8 : (v).toInt < (0 : Int) := i_nle c_2; omega)
    have fc_2 : (0 : Int) ≤ (v).toInt := i_le c_2
    refine lv_iconst (v := (0 : Int32)) hx hb dX10_isPlayer_16 (by decide) ?_
    exact x_iret C X hr hlk (v := (0 : Int32)) (by first | rfl | decide) (()) [0] (by decide) rfl (⟨rfl, trivial⟩) (Nat.le_of_ble_eq_true rfl) (Nat.le_of_ble_eq_true rfl) dX10_isPlayer_17
set_option maxHeartbeats 4000000 in
set_option maxRecDepth 100000 in
theorem c_courseOf (l : Launch) (D : va_G) (cI cJ cZ cB : ClassId) (cO : ClassId) (w : Nat → Nat) (v : Int32) :
    CI l D [(cI, .int), (cJ, .long), (cZ, .boolean), (cB, .byte), (cO, .object "LuckLinks$World")] yX10_courseOf cX10_courseOf 2 (some .int) ({ frames := 2, cells := 0, slots := 0, locals := 42 } : Room) [.ref (w 0), .int v] [((w 0), .inr (10, [.int (0 : Int32), .ref (w 1), .int (0 : Int32), .ref (w 2), .ref (w 3), .int (0 : Int32), .ref (w 4), .ref (w 5), .ref (w 6), .ref (w 7), .ref (w 8), .long (1 : Int64)])), ((w 3), .inl (cI, 40, .inl (fun _ => (-1 : Int32))))] (fun (r : Int32) (u : Unit) => (r = (-1 : Int32) ∧ True)) (fun (_ : Unit) => [((w 0), .inr (10, [.int (0 : Int32), .ref (w 1), .int (0 : Int32), .ref (w 2), .ref (w 3), .int (0 : Int32), .ref (w 4), .ref (w 5), .ref (w 6), .ref (w 7), .ref (w 8), .long (1 : Int64)])), ((w 3), .inl (cI, 40, .inl (fun _ => (-1 : Int32))))]) := by
  intro sz
  refine body_of (y := yX10_courseOf) (cc := cX10_courseOf) (maxL := 2) (ret := (some .int)) (rm := ({ frames := 2, cells := 0, slots := 0, locals := 42 } : Room)) (wc := [((w 0), .inr (10, [.int (0 : Int32), .ref (w 1), .int (0 : Int32), .ref (w 2), .ref (w 3), .int (0 : Int32), .ref (w 4), .ref (w 5), .ref (w 6), .ref (w 7), .ref (w 8), .long (1 : Int64)])), ((w 3), .inl (cI, 40, .inl (fun _ => (-1 : Int32))))]) (tys := [(cI, .int), (cJ, .long), (cZ, .boolean), (cB, .byte), (cO, .object "LuckLinks$World")]) (D := D) (sz := sz) (own := RX10) (av := [.ref (w 0), .int v]) (Qc := fun A => va_Qi (fun (r : Int32) (u : Unit) => (r = (-1 : Int32) ∧ True)) (fun u t => Aft D A ((fun (_ : Unit) => [((w 0), .inr (10, [.int (0 : Int32), .ref (w 1), .int (0 : Int32), .ref (w 2), .ref (w 3), .int (0 : Int32), .ref (w 4), .ref (w 5), .ref (w 6), .ref (w 7), .ref (w 8), .long (1 : Int64)])), ((w 3), .inl (cI, 40, .inl (fun _ => (-1 : Int32))))]) u) t) A) (by decide) rfl (Nat.le_of_ble_eq_true rfl) (fun p e s m below meth c A ls C hr hlk hin X hl => ?_)
  have hx := C.1
  have hb := C.2.1
  have hown := C.2.2.2.1
  have hts := C.2.2.2.2.1
  have hl : lv_has ls 2 [(0, .ref (w 0)), (1, .int v)] := hl
  show W p l e _ s m _ below meth c s.heap [] 0 0 (MQ below (va_Qi (fun (r : Int32) (u : Unit) => (r = (-1 : Int32) ∧ True)) (fun u t => Aft D A ((fun (_ : Unit) => [((w 0), .inr (10, [.int (0 : Int32), .ref (w 1), .int (0 : Int32), .ref (w 2), .ref (w 3), .int (0 : Int32), .ref (w 4), .ref (w 5), .ref (w 6), .ref (w 7), .ref (w 8), .long (1 : Int64)])), ((w 3), .inl (cI, 40, .inl (fun _ => (-1 : Int32))))]) u) t) A) ([.ref (w 0), .int v] : List Value).toArray s 0 0 A) (F0 m 0 ls [])
  have X : Wd D A s [((w 0), .inr (10, [.int (0 : Int32), .ref (w 1), .int (0 : Int32), .ref (w 2), .ref (w 3), .int (0 : Int32), .ref (w 4), .ref (w 5), .ref (w 6), .ref (w 7), .ref (w 8), .long (1 : Int64)])), ((w 3), .inl (cI, 40, .inl (fun _ => (-1 : Int32))))] s.heap [] := X
  obtain ⟨H, locs, eH, eL⟩ : ∃ H locs, H = s.heap ∧ locs = ([] : List Loc) := ⟨_, _, rfl, rfl⟩
  rw [← eH, ← eL] at X ⊢
  clear eH eL
  refine lv_iload_n hx hb dX10_courseOf_0 rfl (lv_at hl 1 rfl) ?_
  refine x_cN (own := RX10) (wr := [((w 0), .inr (10, [.int (0 : Int32), .ref (w 1), .int (0 : Int32), .ref (w 2), .ref (w 3), .int (0 : Int32), .ref (w 4), .ref (w 5), .ref (w 6), .ref (w 7), .ref (w 8), .long (1 : Int64)])), ((w 3), .inl (cI, 40, .inl (fun _ => (-1 : Int32))))]) (As := [.int v]) C X hl.1 (c_isWeek l D cI cJ cZ cB cO v) [] [0, 1] ⟨rfl, rfl, by decide, by decide, by decide⟩ k_14_1 k_1_2 k_14_2 rfl (n := 1) (by decide +kernel) ⟨Nat.le_of_ble_eq_true rfl, Nat.le_of_ble_eq_true rfl⟩ rfl rfl (Nat.le_of_ble_eq_true rfl) dX10_courseOf_1 ⟨Nat.le_of_ble_eq_true rfl, Nat.le_of_ble_eq_true rfl⟩ (fun r_2 u_1 H locs w_3 X => ?_)
  have X : Wd D A s [((w 0), .inr (10, [.int (0 : Int32), .ref (w 1), .int (0 : Int32), .ref (w 2), .ref (w 3), .int (0 : Int32), .ref (w 4), .ref (w 5), .ref (w 6), .ref (w 7), .ref (w 8), .long (1 : Int64)])), ((w 3), .inl (cI, 40, .inl (fun _ => (-1 : Int32))))] H locs := X
  refine W.widen (k := 0) (n := 0) (Nat.le_of_ble_eq_true rfl) (Nat.le_of_ble_eq_true rfl) ?_
  obtain ⟨rfl, fw_3⟩ | ⟨rfl, fw_3⟩ : (r_2 = (1 : Int32) ∧ (0 ≤ (v).toInt ∧ (v).toInt ≤ 39)) ∨ (r_2 = (0 : Int32) ∧ ((v).toInt < 0 ∨ 39 < (v).toInt)) := w_3
  · refine lv_if_eq (tgt := 16) hx hb dX10_courseOf_4 (by decide) (fun c0 => absurd c0 (by decide)) (fun _ => ?_)
    refine lv_aload_n hx hb dX10_courseOf_7 rfl (lv_at hl 0 rfl) ?_
    refine x_get (own := RX10) (T := TX10) C X 0 rfl rfl 4 (by decide) k_3_21 rfl rfl (v := .ref (w 3)) rfl dX10_courseOf_8 ?_
    refine lv_iload_n hx hb dX10_courseOf_11 rfl (lv_at hl 1 rfl) ?_
    refine x_iald C X 1 0 rfl rfl (j := (v).toInt.toNat) rfl (vp_in_iff.mpr ⟨by omega, by omega⟩) (v := (-1 : Int32)) (rfl) dX10_courseOf_12 ?_
    refine lv_goto (tgt := 17) hx hb dX10_courseOf_13 (by decide) ?_
    exact x_iret C X hr hlk (v := (-1 : Int32)) (by first | rfl | decide) (()) [0, 1] (by decide) rfl (⟨rfl, trivial⟩) (Nat.le_of_ble_eq_true rfl) (Nat.le_of_ble_eq_true rfl) dX10_courseOf_17
  · refine lv_if_eq (tgt := 16) hx hb dX10_courseOf_4 (by decide) (fun _ => ?_) (fun c0 => absurd (by decide) c0)
    refine lv_iconst (v := (-1 : Int32)) hx hb dX10_courseOf_16 (by decide) ?_
    exact x_iret C X hr hlk (v := (-1 : Int32)) (by first | rfl | decide) (()) [0, 1] (by decide) rfl (⟨rfl, trivial⟩) (Nat.le_of_ble_eq_true rfl) (Nat.le_of_ble_eq_true rfl) dX10_courseOf_17
set_option maxHeartbeats 4000000 in
set_option maxRecDepth 100000 in
theorem c_roundsOn (l : Launch) (D : va_G) (cI cJ cZ cB : ClassId) (cO : ClassId) (w : Nat → Nat) (wk dy : Int32) :
    CI l D [(cI, .int), (cJ, .long), (cZ, .boolean), (cB, .byte), (cO, .object "LuckLinks$World")] yX10_roundsOn cX10_roundsOn 4 (some .int) ({ frames := 0, cells := 0, slots := 0, locals := 0 } : Room) [.ref (w 0), .int wk, .int dy] [((w 0), .inr (10, [.int (0 : Int32), .ref (w 1), .int (0 : Int32), .ref (w 2), .ref (w 3), .int (0 : Int32), .ref (w 4), .ref (w 5), .ref (w 6), .ref (w 7), .ref (w 8), .long (1 : Int64)])), ((w 6), .inl (cI, 160, .inl (fun _ => (0 : Int32))))] (fun (r : Int32) (u : Unit) => (r = (0 : Int32) ∧ True)) (fun (_ : Unit) => [((w 0), .inr (10, [.int (0 : Int32), .ref (w 1), .int (0 : Int32), .ref (w 2), .ref (w 3), .int (0 : Int32), .ref (w 4), .ref (w 5), .ref (w 6), .ref (w 7), .ref (w 8), .long (1 : Int64)])), ((w 6), .inl (cI, 160, .inl (fun _ => (0 : Int32))))]) := by
  intro sz
  refine body_of (y := yX10_roundsOn) (cc := cX10_roundsOn) (maxL := 4) (ret := (some .int)) (rm := ({ frames := 0, cells := 0, slots := 0, locals := 0 } : Room)) (wc := [((w 0), .inr (10, [.int (0 : Int32), .ref (w 1), .int (0 : Int32), .ref (w 2), .ref (w 3), .int (0 : Int32), .ref (w 4), .ref (w 5), .ref (w 6), .ref (w 7), .ref (w 8), .long (1 : Int64)])), ((w 6), .inl (cI, 160, .inl (fun _ => (0 : Int32))))]) (tys := [(cI, .int), (cJ, .long), (cZ, .boolean), (cB, .byte), (cO, .object "LuckLinks$World")]) (D := D) (sz := sz) (own := RX10) (av := [.ref (w 0), .int wk, .int dy]) (Qc := fun A => va_Qi (fun (r : Int32) (u : Unit) => (r = (0 : Int32) ∧ True)) (fun u t => Aft D A ((fun (_ : Unit) => [((w 0), .inr (10, [.int (0 : Int32), .ref (w 1), .int (0 : Int32), .ref (w 2), .ref (w 3), .int (0 : Int32), .ref (w 4), .ref (w 5), .ref (w 6), .ref (w 7), .ref (w 8), .long (1 : Int64)])), ((w 6), .inl (cI, 160, .inl (fun _ => (0 : Int32))))]) u) t) A) (by decide) rfl (Nat.le_of_ble_eq_true rfl) (fun p e s m below meth c A ls C hr hlk hin X hl => ?_)
  have hx := C.1
  have hb := C.2.1
  have hown := C.2.2.2.1
  have hts := C.2.2.2.2.1
  have hl : lv_has ls 4 [(0, .ref (w 0)), (1, .int wk), (2, .int dy)] := hl
  show W p l e _ s m _ below meth c s.heap [] 0 0 (MQ below (va_Qi (fun (r : Int32) (u : Unit) => (r = (0 : Int32) ∧ True)) (fun u t => Aft D A ((fun (_ : Unit) => [((w 0), .inr (10, [.int (0 : Int32), .ref (w 1), .int (0 : Int32), .ref (w 2), .ref (w 3), .int (0 : Int32), .ref (w 4), .ref (w 5), .ref (w 6), .ref (w 7), .ref (w 8), .long (1 : Int64)])), ((w 6), .inl (cI, 160, .inl (fun _ => (0 : Int32))))]) u) t) A) ([.ref (w 0), .int wk, .int dy] : List Value).toArray s 0 0 A) (F0 m 0 ls [])
  have X : Wd D A s [((w 0), .inr (10, [.int (0 : Int32), .ref (w 1), .int (0 : Int32), .ref (w 2), .ref (w 3), .int (0 : Int32), .ref (w 4), .ref (w 5), .ref (w 6), .ref (w 7), .ref (w 8), .long (1 : Int64)])), ((w 6), .inl (cI, 160, .inl (fun _ => (0 : Int32))))] s.heap [] := X
  obtain ⟨H, locs, eH, eL⟩ : ∃ H locs, H = s.heap ∧ locs = ([] : List Loc) := ⟨_, _, rfl, rfl⟩
  rw [← eH, ← eL] at X ⊢
  clear eH eL
  refine lv_iload_n hx hb dX10_roundsOn_0 rfl (lv_at hl 1 rfl) ?_
  refine lv_if_lt (tgt := 23) hx hb dX10_roundsOn_1 (by decide) (fun c_1 => ?_) (fun c_1 => ?_)
  · have fc_1 : (wk).toInt < (0 : Int) := i_lt c_1
    refine lv_iconst (v := (0 : Int32)) hx hb dX10_roundsOn_23 (by decide) ?_
    refine lv_istore_n (lv' := [(3, .int (0 : Int32)), (0, .ref (w 0)), (1, .int wk), (2, .int dy)]) hx hb dX10_roundsOn_24 rfl hl (by decide) rfl (fun ls hl => ?_)
    refine lv_iload_n hx hb dX10_roundsOn_25 rfl (lv_at hl 0 rfl) ?_
    refine lv_if_eq (tgt := 42) hx hb dX10_roundsOn_26 (by decide) (fun _ => ?_) (fun c0 => absurd (by decide) c0)
    refine lv_iconst (v := (0 : Int32)) hx hb dX10_roundsOn_42 (by decide) ?_
    exact x_iret C X hr hlk (v := (0 : Int32)) (by first | rfl | decide) (()) [0, 1] (by decide) rfl (⟨rfl, trivial⟩) (Nat.le_of_ble_eq_true rfl) (Nat.le_of_ble_eq_true rfl) dX10_roundsOn_43
  · have fc_1 : (0 : Int) ≤ (wk).toInt := i_nlt c_1
    refine lv_iload_n hx hb dX10_roundsOn_4 rfl (lv_at hl 1 rfl) ?_
    refine lv_bipush (v := (40 : Int32)) hx hb dX10_roundsOn_5 (by decide) ?_
    refine lv_icmp_ge (tgt := 23) hx hb dX10_roundsOn_7 (by decide) (fun c_2 => ?_) (fun c_2 => ?_)
    · have fc_2 : (40 : Int) ≤ (wk).toInt := i_le c_2
      refine lv_iconst (v := (0 : Int32)) hx hb dX10_roundsOn_23 (by decide) ?_
      refine lv_istore_n (lv' := [(3, .int (0 : Int32)), (0, .ref (w 0)), (1, .int wk), (2, .int dy)]) hx hb dX10_roundsOn_24 rfl hl (by decide) rfl (fun ls hl => ?_)
      refine lv_iload_n hx hb dX10_roundsOn_25 rfl (lv_at hl 0 rfl) ?_
      refine lv_if_eq (tgt := 42) hx hb dX10_roundsOn_26 (by decide) (fun _ => ?_) (fun c0 => absurd (by decide) c0)
      refine lv_iconst (v := (0 : Int32)) hx hb dX10_roundsOn_42 (by decide) ?_
      exact x_iret C X hr hlk (v := (0 : Int32)) (by first | rfl | decide) (()) [0, 1] (by decide) rfl (⟨rfl, trivial⟩) (Nat.le_of_ble_eq_true rfl) (Nat.le_of_ble_eq_true rfl) dX10_roundsOn_43
    · have fc_2 : (wk).toInt < (40 : Int) := i_nle c_2
      refine lv_iload_n hx hb dX10_roundsOn_10 rfl (lv_at hl 2 rfl) ?_
      refine lv_if_lt (tgt := 23) hx hb dX10_roundsOn_11 (by decide) (fun c_3 => ?_) (fun c_3 => ?_)
      · have fc_3 : (dy).toInt < (0 : Int) := i_lt c_3
        refine lv_iconst (v := (0 : Int32)) hx hb dX10_roundsOn_23 (by decide) ?_
        refine lv_istore_n (lv' := [(3, .int (0 : Int32)), (0, .ref (w 0)), (1, .int wk), (2, .int dy)]) hx hb dX10_roundsOn_24 rfl hl (by decide) rfl (fun ls hl => ?_)
        refine lv_iload_n hx hb dX10_roundsOn_25 rfl (lv_at hl 0 rfl) ?_
        refine lv_if_eq (tgt := 42) hx hb dX10_roundsOn_26 (by decide) (fun _ => ?_) (fun c0 => absurd (by decide) c0)
        refine lv_iconst (v := (0 : Int32)) hx hb dX10_roundsOn_42 (by decide) ?_
        exact x_iret C X hr hlk (v := (0 : Int32)) (by first | rfl | decide) (()) [0, 1] (by decide) rfl (⟨rfl, trivial⟩) (Nat.le_of_ble_eq_true rfl) (Nat.le_of_ble_eq_true rfl) dX10_roundsOn_43
      · have fc_3 : (0 : Int) ≤ (dy).toInt := i_nlt c_3
        refine lv_iload_n hx hb dX10_roundsOn_14 rfl (lv_at hl 2 rfl) ?_
        refine lv_iconst (v := (4 : Int32)) hx hb dX10_roundsOn_15 (by decide) ?_
        refine lv_icmp_ge (tgt := 23) hx hb dX10_roundsOn_16 (by decide) (fun c_4 => ?_) (fun c_4 => ?_)
        · have fc_4 : (4 : Int) ≤ (dy).toInt := i_le c_4
          refine lv_iconst (v := (0 : Int32)) hx hb dX10_roundsOn_23 (by decide) ?_
          refine lv_istore_n (lv' := [(3, .int (0 : Int32)), (0, .ref (w 0)), (1, .int wk), (2, .int dy)]) hx hb dX10_roundsOn_24 rfl hl (by decide) rfl (fun ls hl => ?_)
          refine lv_iload_n hx hb dX10_roundsOn_25 rfl (lv_at hl 0 rfl) ?_
          refine lv_if_eq (tgt := 42) hx hb dX10_roundsOn_26 (by decide) (fun _ => ?_) (fun c0 => absurd (by decide) c0)
          refine lv_iconst (v := (0 : Int32)) hx hb dX10_roundsOn_42 (by decide) ?_
          exact x_iret C X hr hlk (v := (0 : Int32)) (by first | rfl | decide) (()) [0, 1] (by decide) rfl (⟨rfl, trivial⟩) (Nat.le_of_ble_eq_true rfl) (Nat.le_of_ble_eq_true rfl) dX10_roundsOn_43
        · have fc_4 : (dy).toInt < (4 : Int) := i_nle c_4
          obtain ⟨kw, hkw, rfl⟩ := i_ex (x := wk) 40 (by omega) (by omega)
          obtain ⟨kd, hkd, rfl⟩ := i_ex (x := dy) 4 (by omega) (by omega)
          refine lv_iconst (v := (1 : Int32)) hx hb dX10_roundsOn_19 (by decide) ?_
          refine lv_goto (tgt := 24) hx hb dX10_roundsOn_20 (by decide) ?_
          refine lv_istore_n (lv' := [(3, .int (1 : Int32)), (0, .ref (w 0)), (1, .int (nI (kw))), (2, .int (nI (kd)))]) hx hb dX10_roundsOn_24 rfl hl (by decide) rfl (fun ls hl => ?_)
          refine lv_iload_n hx hb dX10_roundsOn_25 rfl (lv_at hl 0 rfl) ?_
          refine lv_if_eq (tgt := 42) hx hb dX10_roundsOn_26 (by decide) (fun c0 => absurd c0 (by decide)) (fun _ => ?_)
          refine lv_aload_n hx hb dX10_roundsOn_29 rfl (lv_at hl 1 rfl) ?_
          refine x_get (own := RX10) (T := TX10) C X 0 rfl rfl 8 (by decide) k_4_1 rfl rfl (v := .ref (w 6)) rfl dX10_roundsOn_30 ?_
          refine lv_iload_n hx hb dX10_roundsOn_33 rfl (lv_at hl 2 rfl) ?_
          refine lv_iconst (v := (4 : Int32)) hx hb dX10_roundsOn_34 (by decide) ?_
          refine lv_imul hx hb dX10_roundsOn_35 ?_
          refine x_eqi (show (nI (kw)) * (4 : Int32) = (nI (kw * 4)) from pk_mul kw 4) ?_
          refine lv_iload_n hx hb dX10_roundsOn_36 rfl (lv_at hl 3 rfl) ?_
          refine lv_iadd hx hb dX10_roundsOn_37 ?_
          refine x_eqi (show (nI (kw * 4)) + (nI (kd)) = (nI ((kw * 4) + kd)) from nI_add (kw * 4) kd) ?_
          refine x_iald C X 1 0 rfl rfl (j := (kw * 4) + kd) (nI_clamp (by omega)) (vp_in_nI (by omega) (by omega)) (v := (0 : Int32)) (rfl) dX10_roundsOn_38 ?_
          refine lv_goto (tgt := 43) hx hb dX10_roundsOn_39 (by decide) ?_
          exact x_iret C X hr hlk (v := (0 : Int32)) (by first | rfl | decide) (()) [0, 1] (by decide) rfl (⟨rfl, trivial⟩) (Nat.le_of_ble_eq_true rfl) (Nat.le_of_ble_eq_true rfl) dX10_roundsOn_43
set_option maxHeartbeats 4000000 in
set_option maxRecDepth 100000 in
theorem c_slotOf (l : Launch) (D : va_G) (cI cJ cZ cB : ClassId) (cO : ClassId) (pl wk dy : Int32) :
    CI l D [(cI, .int), (cJ, .long), (cZ, .boolean), (cB, .byte), (cO, .object "LuckLinks$World")] yX10_slotOf cX10_slotOf 4 (some .int) ({ frames := 0, cells := 0, slots := 0, locals := 0 } : Room) [.int pl, .int wk, .int dy] [] (fun (r : Int32) (u : Nat) => match u with | u => (r = (-1 : Int32) ∧ True) ∨ (r = (nI (u)) ∧ u < 3200)) (fun (u : Nat) => match u with | u => []) := by
  intro sz
  refine body_of (y := yX10_slotOf) (cc := cX10_slotOf) (maxL := 4) (ret := (some .int)) (rm := ({ frames := 0, cells := 0, slots := 0, locals := 0 } : Room)) (wc := []) (tys := [(cI, .int), (cJ, .long), (cZ, .boolean), (cB, .byte), (cO, .object "LuckLinks$World")]) (D := D) (sz := sz) (own := RX10) (av := [.int pl, .int wk, .int dy]) (Qc := fun A => va_Qi (fun (r : Int32) (u : Nat) => match u with | u => (r = (-1 : Int32) ∧ True) ∨ (r = (nI (u)) ∧ u < 3200)) (fun u t => Aft D A ((fun (u : Nat) => match u with | u => []) u) t) A) (by decide) rfl (Nat.le_of_ble_eq_true rfl) (fun p e s m below meth c A ls C hr hlk hin X hl => ?_)
  have hx := C.1
  have hb := C.2.1
  have hown := C.2.2.2.1
  have hts := C.2.2.2.2.1
  have hl : lv_has ls 4 [(0, .int pl), (1, .int wk), (2, .int dy)] := hl
  show W p l e _ s m _ below meth c s.heap [] 0 0 (MQ below (va_Qi (fun (r : Int32) (u : Nat) => match u with | u => (r = (-1 : Int32) ∧ True) ∨ (r = (nI (u)) ∧ u < 3200)) (fun u t => Aft D A ((fun (u : Nat) => match u with | u => []) u) t) A) ([.int pl, .int wk, .int dy] : List Value).toArray s 0 0 A) (F0 m 0 ls [])
  have X : Wd D A s [] s.heap [] := X
  obtain ⟨H, locs, eH, eL⟩ : ∃ H locs, H = s.heap ∧ locs = ([] : List Loc) := ⟨_, _, rfl, rfl⟩
  rw [← eH, ← eL] at X ⊢
  clear eH eL
  refine lv_iload_n hx hb dX10_slotOf_0 rfl (lv_at hl 0 rfl) ?_
  refine lv_if_lt (tgt := 33) hx hb dX10_slotOf_1 (by decide) (fun c_1 => ?_) (fun c_1 => ?_)
  · have fc_1 : (pl).toInt < (0 : Int) := i_lt c_1
    refine lv_iconst (v := (0 : Int32)) hx hb dX10_slotOf_33 (by decide) ?_
    refine lv_istore_n (lv' := [(3, .int (0 : Int32)), (0, .int pl), (1, .int wk), (2, .int dy)]) hx hb dX10_slotOf_34 rfl hl (by decide) rfl (fun ls hl => ?_)
    refine lv_iload_n hx hb dX10_slotOf_35 rfl (lv_at hl 0 rfl) ?_
    refine lv_if_eq (tgt := 52) hx hb dX10_slotOf_36 (by decide) (fun _ => ?_) (fun c0 => absurd (by decide) c0)
    refine lv_iconst (v := (-1 : Int32)) hx hb dX10_slotOf_52 (by decide) ?_
    exact x_iret C X hr hlk (v := (-1 : Int32)) (by first | rfl | decide) (0) [] (by decide) rfl (Or.inl (⟨rfl, trivial⟩)) (Nat.le_of_ble_eq_true rfl) (Nat.le_of_ble_eq_true rfl) dX10_slotOf_53
  · have fc_1 : (0 : Int) ≤ (pl).toInt := i_nlt c_1
    refine lv_iload_n hx hb dX10_slotOf_4 rfl (lv_at hl 0 rfl) ?_
    refine lv_bipush (v := (20 : Int32)) hx hb dX10_slotOf_5 (by decide) ?_
    refine lv_icmp_ge (tgt := 33) hx hb dX10_slotOf_7 (by decide) (fun c_2 => ?_) (fun c_2 => ?_)
    · have fc_2 : (20 : Int) ≤ (pl).toInt := i_le c_2
      refine lv_iconst (v := (0 : Int32)) hx hb dX10_slotOf_33 (by decide) ?_
      refine lv_istore_n (lv' := [(3, .int (0 : Int32)), (0, .int pl), (1, .int wk), (2, .int dy)]) hx hb dX10_slotOf_34 rfl hl (by decide) rfl (fun ls hl => ?_)
      refine lv_iload_n hx hb dX10_slotOf_35 rfl (lv_at hl 0 rfl) ?_
      refine lv_if_eq (tgt := 52) hx hb dX10_slotOf_36 (by decide) (fun _ => ?_) (fun c0 => absurd (by decide) c0)
      refine lv_iconst (v := (-1 : Int32)) hx hb dX10_slotOf_52 (by decide) ?_
      exact x_iret C X hr hlk (v := (-1 : Int32)) (by first | rfl | decide) (0) [] (by decide) rfl (Or.inl (⟨rfl, trivial⟩)) (Nat.le_of_ble_eq_true rfl) (Nat.le_of_ble_eq_true rfl) dX10_slotOf_53
    · have fc_2 : (pl).toInt < (20 : Int) := i_nle c_2
      refine lv_iload_n hx hb dX10_slotOf_10 rfl (lv_at hl 1 rfl) ?_
      refine lv_if_lt (tgt := 33) hx hb dX10_slotOf_11 (by decide) (fun c_3 => ?_) (fun c_3 => ?_)
      · have fc_3 : (wk).toInt < (0 : Int) := i_lt c_3
        refine lv_iconst (v := (0 : Int32)) hx hb dX10_slotOf_33 (by decide) ?_
        refine lv_istore_n (lv' := [(3, .int (0 : Int32)), (0, .int pl), (1, .int wk), (2, .int dy)]) hx hb dX10_slotOf_34 rfl hl (by decide) rfl (fun ls hl => ?_)
        refine lv_iload_n hx hb dX10_slotOf_35 rfl (lv_at hl 0 rfl) ?_
        refine lv_if_eq (tgt := 52) hx hb dX10_slotOf_36 (by decide) (fun _ => ?_) (fun c0 => absurd (by decide) c0)
        refine lv_iconst (v := (-1 : Int32)) hx hb dX10_slotOf_52 (by decide) ?_
        exact x_iret C X hr hlk (v := (-1 : Int32)) (by first | rfl | decide) (0) [] (by decide) rfl (Or.inl (⟨rfl, trivial⟩)) (Nat.le_of_ble_eq_true rfl) (Nat.le_of_ble_eq_true rfl) dX10_slotOf_53
      · have fc_3 : (0 : Int) ≤ (wk).toInt := i_nlt c_3
        refine lv_iload_n hx hb dX10_slotOf_14 rfl (lv_at hl 1 rfl) ?_
        refine lv_bipush (v := (40 : Int32)) hx hb dX10_slotOf_15 (by decide) ?_
        refine lv_icmp_ge (tgt := 33) hx hb dX10_slotOf_17 (by decide) (fun c_4 => ?_) (fun c_4 => ?_)
        · have fc_4 : (40 : Int) ≤ (wk).toInt := i_le c_4
          refine lv_iconst (v := (0 : Int32)) hx hb dX10_slotOf_33 (by decide) ?_
          refine lv_istore_n (lv' := [(3, .int (0 : Int32)), (0, .int pl), (1, .int wk), (2, .int dy)]) hx hb dX10_slotOf_34 rfl hl (by decide) rfl (fun ls hl => ?_)
          refine lv_iload_n hx hb dX10_slotOf_35 rfl (lv_at hl 0 rfl) ?_
          refine lv_if_eq (tgt := 52) hx hb dX10_slotOf_36 (by decide) (fun _ => ?_) (fun c0 => absurd (by decide) c0)
          refine lv_iconst (v := (-1 : Int32)) hx hb dX10_slotOf_52 (by decide) ?_
          exact x_iret C X hr hlk (v := (-1 : Int32)) (by first | rfl | decide) (0) [] (by decide) rfl (Or.inl (⟨rfl, trivial⟩)) (Nat.le_of_ble_eq_true rfl) (Nat.le_of_ble_eq_true rfl) dX10_slotOf_53
        · have fc_4 : (wk).toInt < (40 : Int) := i_nle c_4
          refine lv_iload_n hx hb dX10_slotOf_20 rfl (lv_at hl 2 rfl) ?_
          refine lv_if_lt (tgt := 33) hx hb dX10_slotOf_21 (by decide) (fun c_5 => ?_) (fun c_5 => ?_)
          · have fc_5 : (dy).toInt < (0 : Int) := i_lt c_5
            refine lv_iconst (v := (0 : Int32)) hx hb dX10_slotOf_33 (by decide) ?_
            refine lv_istore_n (lv' := [(3, .int (0 : Int32)), (0, .int pl), (1, .int wk), (2, .int dy)]) hx hb dX10_slotOf_34 rfl hl (by decide) rfl (fun ls hl => ?_)
            refine lv_iload_n hx hb dX10_slotOf_35 rfl (lv_at hl 0 rfl) ?_
            refine lv_if_eq (tgt := 52) hx hb dX10_slotOf_36 (by decide) (fun _ => ?_) (fun c0 => absurd (by decide) c0)
            refine lv_iconst (v := (-1 : Int32)) hx hb dX10_slotOf_52 (by decide) ?_
            exact x_iret C X hr hlk (v := (-1 : Int32)) (by first | rfl | decide) (0) [] (by decide) rfl (Or.inl (⟨rfl, trivial⟩)) (Nat.le_of_ble_eq_true rfl) (Nat.le_of_ble_eq_true rfl) dX10_slotOf_53
          · have fc_5 : (0 : Int) ≤ (dy).toInt := i_nlt c_5
            refine lv_iload_n hx hb dX10_slotOf_24 rfl (lv_at hl 2 rfl) ?_
            refine lv_iconst (v := (4 : Int32)) hx hb dX10_slotOf_25 (by decide) ?_
            refine lv_icmp_ge (tgt := 33) hx hb dX10_slotOf_26 (by decide) (fun c_6 => ?_) (fun c_6 => ?_)
            · have fc_6 : (4 : Int) ≤ (dy).toInt := i_le c_6
              refine lv_iconst (v := (0 : Int32)) hx hb dX10_slotOf_33 (by decide) ?_
              refine lv_istore_n (lv' := [(3, .int (0 : Int32)), (0, .int pl), (1, .int wk), (2, .int dy)]) hx hb dX10_slotOf_34 rfl hl (by decide) rfl (fun ls hl => ?_)
              refine lv_iload_n hx hb dX10_slotOf_35 rfl (lv_at hl 0 rfl) ?_
              refine lv_if_eq (tgt := 52) hx hb dX10_slotOf_36 (by decide) (fun _ => ?_) (fun c0 => absurd (by decide) c0)
              refine lv_iconst (v := (-1 : Int32)) hx hb dX10_slotOf_52 (by decide) ?_
              exact x_iret C X hr hlk (v := (-1 : Int32)) (by first | rfl | decide) (0) [] (by decide) rfl (Or.inl (⟨rfl, trivial⟩)) (Nat.le_of_ble_eq_true rfl) (Nat.le_of_ble_eq_true rfl) dX10_slotOf_53
            · have fc_6 : (dy).toInt < (4 : Int) := i_nle c_6
              obtain ⟨kw, hkw, rfl⟩ := i_ex (x := wk) 40 (by omega) (by omega)
              obtain ⟨kd, hkd, rfl⟩ := i_ex (x := dy) 4 (by omega) (by omega)
              obtain ⟨kp, hkp, rfl⟩ := i_ex (x := pl) 20 (by omega) (by omega)
              refine lv_iconst (v := (1 : Int32)) hx hb dX10_slotOf_29 (by decide) ?_
              refine lv_goto (tgt := 34) hx hb dX10_slotOf_30 (by decide) ?_
              refine lv_istore_n (lv' := [(3, .int (1 : Int32)), (0, .int (nI (kp))), (1, .int (nI (kw))), (2, .int (nI (kd)))]) hx hb dX10_slotOf_34 rfl hl (by decide) rfl (fun ls hl => ?_)
              refine lv_iload_n hx hb dX10_slotOf_35 rfl (lv_at hl 0 rfl) ?_
              refine lv_if_eq (tgt := 52) hx hb dX10_slotOf_36 (by decide) (fun c0 => absurd c0 (by decide)) (fun _ => ?_)
              refine lv_iload_n hx hb dX10_slotOf_39 rfl (lv_at hl 2 rfl) ?_
              refine lv_iconst (v := (4 : Int32)) hx hb dX10_slotOf_40 (by decide) ?_
              refine lv_imul hx hb dX10_slotOf_41 ?_
              refine x_eqi (show (nI (kw)) * (4 : Int32) = (nI (kw * 4)) from pk_mul kw 4) ?_
              refine lv_iload_n hx hb dX10_slotOf_42 rfl (lv_at hl 3 rfl) ?_
              refine lv_iadd hx hb dX10_slotOf_43 ?_
              refine x_eqi (show (nI (kw * 4)) + (nI (kd)) = (nI ((kw * 4) + kd)) from nI_add (kw * 4) kd) ?_
              refine lv_bipush (v := (20 : Int32)) hx hb dX10_slotOf_44 (by decide) ?_
              refine lv_imul hx hb dX10_slotOf_46 ?_
              refine x_eqi (show (nI ((kw * 4) + kd)) * (20 : Int32) = (nI (((kw * 4) + kd) * 20)) from pk_mul ((kw * 4) + kd) 20) ?_
              refine lv_iload_n hx hb dX10_slotOf_47 rfl (lv_at hl 1 rfl) ?_
              refine lv_iadd hx hb dX10_slotOf_48 ?_
              refine x_eqi (show (nI (((kw * 4) + kd) * 20)) + (nI (kp)) = (nI ((((kw * 4) + kd) * 20) + kp)) from nI_add (((kw * 4) + kd) * 20) kp) ?_
              refine lv_goto (tgt := 53) hx hb dX10_slotOf_49 (by decide) ?_
              exact x_iret C X hr hlk (v := (nI ((((kw * 4) + kd) * 20) + kp))) (by first | rfl | decide) ((((kw * 4) + kd) * 20) + kp) [] (by decide) rfl (Or.inr (⟨rfl, by omega⟩)) (Nat.le_of_ble_eq_true rfl) (Nat.le_of_ble_eq_true rfl) dX10_slotOf_53
set_option maxHeartbeats 4000000 in
set_option maxRecDepth 100000 in
theorem c_hasRound (l : Launch) (D : va_G) (cI cJ cZ cB : ClassId) (cO : ClassId) (w : Nat → Nat) (pl wk dy : Int32) :
    CI l D [(cI, .int), (cJ, .long), (cZ, .boolean), (cB, .byte), (cO, .object "LuckLinks$World")] yX10_hasRound cX10_hasRound 5 (some .boolean) ({ frames := 1, cells := 0, slots := 0, locals := 23 } : Room) [.ref (w 0), .int pl, .int wk, .int dy] [((w 0), .inr (10, [.int (0 : Int32), .ref (w 1), .int (0 : Int32), .ref (w 2), .ref (w 3), .int (0 : Int32), .ref (w 4), .ref (w 5), .ref (w 6), .ref (w 7), .ref (w 8), .long (1 : Int64)])), ((w 4), .inl (cI, 3200, .inl (fun _ => (-1 : Int32))))] (fun (r : Int32) (u : Unit) => (r = (0 : Int32) ∧ True)) (fun (_ : Unit) => [((w 0), .inr (10, [.int (0 : Int32), .ref (w 1), .int (0 : Int32), .ref (w 2), .ref (w 3), .int (0 : Int32), .ref (w 4), .ref (w 5), .ref (w 6), .ref (w 7), .ref (w 8), .long (1 : Int64)])), ((w 4), .inl (cI, 3200, .inl (fun _ => (-1 : Int32))))]) := by
  intro sz
  refine body_of (y := yX10_hasRound) (cc := cX10_hasRound) (maxL := 5) (ret := (some .boolean)) (rm := ({ frames := 1, cells := 0, slots := 0, locals := 23 } : Room)) (wc := [((w 0), .inr (10, [.int (0 : Int32), .ref (w 1), .int (0 : Int32), .ref (w 2), .ref (w 3), .int (0 : Int32), .ref (w 4), .ref (w 5), .ref (w 6), .ref (w 7), .ref (w 8), .long (1 : Int64)])), ((w 4), .inl (cI, 3200, .inl (fun _ => (-1 : Int32))))]) (tys := [(cI, .int), (cJ, .long), (cZ, .boolean), (cB, .byte), (cO, .object "LuckLinks$World")]) (D := D) (sz := sz) (own := RX10) (av := [.ref (w 0), .int pl, .int wk, .int dy]) (Qc := fun A => va_Qi (fun (r : Int32) (u : Unit) => (r = (0 : Int32) ∧ True)) (fun u t => Aft D A ((fun (_ : Unit) => [((w 0), .inr (10, [.int (0 : Int32), .ref (w 1), .int (0 : Int32), .ref (w 2), .ref (w 3), .int (0 : Int32), .ref (w 4), .ref (w 5), .ref (w 6), .ref (w 7), .ref (w 8), .long (1 : Int64)])), ((w 4), .inl (cI, 3200, .inl (fun _ => (-1 : Int32))))]) u) t) A) (by decide) rfl (Nat.le_of_ble_eq_true rfl) (fun p e s m below meth c A ls C hr hlk hin X hl => ?_)
  have hx := C.1
  have hb := C.2.1
  have hown := C.2.2.2.1
  have hts := C.2.2.2.2.1
  have hl : lv_has ls 5 [(0, .ref (w 0)), (1, .int pl), (2, .int wk), (3, .int dy)] := hl
  show W p l e _ s m _ below meth c s.heap [] 0 0 (MQ below (va_Qi (fun (r : Int32) (u : Unit) => (r = (0 : Int32) ∧ True)) (fun u t => Aft D A ((fun (_ : Unit) => [((w 0), .inr (10, [.int (0 : Int32), .ref (w 1), .int (0 : Int32), .ref (w 2), .ref (w 3), .int (0 : Int32), .ref (w 4), .ref (w 5), .ref (w 6), .ref (w 7), .ref (w 8), .long (1 : Int64)])), ((w 4), .inl (cI, 3200, .inl (fun _ => (-1 : Int32))))]) u) t) A) ([.ref (w 0), .int pl, .int wk, .int dy] : List Value).toArray s 0 0 A) (F0 m 0 ls [])
  have X : Wd D A s [((w 0), .inr (10, [.int (0 : Int32), .ref (w 1), .int (0 : Int32), .ref (w 2), .ref (w 3), .int (0 : Int32), .ref (w 4), .ref (w 5), .ref (w 6), .ref (w 7), .ref (w 8), .long (1 : Int64)])), ((w 4), .inl (cI, 3200, .inl (fun _ => (-1 : Int32))))] s.heap [] := X
  obtain ⟨H, locs, eH, eL⟩ : ∃ H locs, H = s.heap ∧ locs = ([] : List Loc) := ⟨_, _, rfl, rfl⟩
  rw [← eH, ← eL] at X ⊢
  clear eH eL
  refine lv_iload_n hx hb dX10_hasRound_0 rfl (lv_at hl 1 rfl) ?_
  refine lv_iload_n hx hb dX10_hasRound_1 rfl (lv_at hl 2 rfl) ?_
  refine lv_iload_n hx hb dX10_hasRound_2 rfl (lv_at hl 3 rfl) ?_
  refine x_cS (own := RX10) (wr := [((w 0), .inr (10, [.int (0 : Int32), .ref (w 1), .int (0 : Int32), .ref (w 2), .ref (w 3), .int (0 : Int32), .ref (w 4), .ref (w 5), .ref (w 6), .ref (w 7), .ref (w 8), .long (1 : Int64)])), ((w 4), .inl (cI, 3200, .inl (fun _ => (-1 : Int32))))]) (As := [.int pl, .int wk, .int dy]) C X hl.1 (c_slotOf l D cI cJ cZ cB cO pl wk dy) [] [0, 1] ⟨rfl, rfl, by decide, by decide, by decide⟩ k_15_13 k_15_14 k_1_14 k_15_15 (n := 3) (by decide +kernel) ⟨Nat.le_of_ble_eq_true rfl, Nat.le_of_ble_eq_true rfl⟩ rfl rfl (Nat.le_of_ble_eq_true rfl) dX10_hasRound_3 ⟨Nat.le_of_ble_eq_true rfl, Nat.le_of_ble_eq_true rfl⟩ (fun r_2 sl_1 H locs w_3 X => ?_)
  have X : Wd D A s [((w 0), .inr (10, [.int (0 : Int32), .ref (w 1), .int (0 : Int32), .ref (w 2), .ref (w 3), .int (0 : Int32), .ref (w 4), .ref (w 5), .ref (w 6), .ref (w 7), .ref (w 8), .long (1 : Int64)])), ((w 4), .inl (cI, 3200, .inl (fun _ => (-1 : Int32))))] H locs := X
  refine W.widen (k := 0) (n := 0) (Nat.le_of_ble_eq_true rfl) (Nat.le_of_ble_eq_true rfl) ?_
  obtain ⟨rfl, fw_3⟩ | ⟨rfl, fw_3⟩ : (r_2 = (-1 : Int32) ∧ True) ∨ (r_2 = (nI (sl_1)) ∧ sl_1 < 3200) := w_3
  · refine lv_istore (lv' := [(4, .int (-1 : Int32)), (0, .ref (w 0)), (1, .int pl), (2, .int wk), (3, .int dy)]) hx hb dX10_hasRound_6 hl (by decide) rfl (fun ls hl => ?_)
    refine lv_iload hx hb dX10_hasRound_8 (lv_at hl 0 rfl) ?_
    refine lv_iconst (v := (-1 : Int32)) hx hb dX10_hasRound_10 (by decide) ?_
    refine lv_icmp_eq (tgt := 29) hx hb dX10_hasRound_11 (by decide) (fun _ => ?_) (fun c0 => absurd (by decide) c0)
    refine lv_iconst (v := (0 : Int32)) hx hb dX10_hasRound_29 (by decide) ?_
    exact x_iret C X hr hlk (v := (0 : Int32)) (by first | rfl | decide) (()) [0, 1] (by decide) rfl (⟨rfl, trivial⟩) (Nat.le_of_ble_eq_true rfl) (Nat.le_of_ble_eq_true rfl) dX10_hasRound_30
  · refine lv_istore (lv' := [(4, .int (nI (sl_1))), (0, .ref (w 0)), (1, .int pl), (2, .int wk), (3, .int dy)]) hx hb dX10_hasRound_6 hl (by decide) rfl (fun ls hl => ?_)
    refine lv_iload hx hb dX10_hasRound_8 (lv_at hl 0 rfl) ?_
    refine lv_iconst (v := (-1 : Int32)) hx hb dX10_hasRound_10 (by decide) ?_
    refine lv_icmp_eq (tgt := 29) hx hb dX10_hasRound_11 (by decide) (fun c_4 => by exfalso; have h8 : ((sl_1 : Nat) : Int) = (-1 : Int) := (by have h9 := i_eq c_4; simp only [nI_toInt (n := sl_1) (by omega)] at h9; exact h9); omega) (fun c_4 => ?_)
    have fc_4 : ((sl_1 : Nat) : Int) ≠ (-1 : Int) := (by have h9 := i_ne c_4; simp only [nI_toInt (n := sl_1) (by omega)] at h9; exact h9)
    refine lv_aload_n hx hb dX10_hasRound_14 rfl (lv_at hl 1 rfl) ?_
    refine x_get (own := RX10) (T := TX10) C X 0 rfl rfl 6 (by decide) k_3_23 rfl rfl (v := .ref (w 4)) rfl dX10_hasRound_15 ?_
    refine lv_iload hx hb dX10_hasRound_18 (lv_at hl 0 rfl) ?_
    refine x_iald C X 1 0 rfl rfl (j := sl_1) (nI_clamp (by omega)) (vp_in_nI (by omega) (by omega)) (v := (-1 : Int32)) (rfl) dX10_hasRound_20 ?_
    refine lv_iconst (v := (-1 : Int32)) hx hb dX10_hasRound_21 (by decide) ?_
    refine lv_icmp_eq (tgt := 29) hx hb dX10_hasRound_22 (by decide) (fun _ => ?_) (fun c0 => absurd (by decide) c0)
    refine lv_iconst (v := (0 : Int32)) hx hb dX10_hasRound_29 (by decide) ?_
    exact x_iret C X hr hlk (v := (0 : Int32)) (by first | rfl | decide) (()) [0, 1] (by decide) rfl (⟨rfl, trivial⟩) (Nat.le_of_ble_eq_true rfl) (Nat.le_of_ble_eq_true rfl) dX10_hasRound_30
set_option maxHeartbeats 4000000 in
set_option maxRecDepth 100000 in
theorem c_putParts (l : Launch) (D : va_G) (cI cJ cZ cB : ClassId) (cO : ClassId) (a N : Nat) (f : Nat → Int32) (p1 p2 p3 p4 : Int32) (hN : N < 2 ^ 31) (h4 : 4 ≤ N) :
    CV l D [(cI, .int), (cJ, .long), (cZ, .boolean), (cB, .byte), (cO, .object "LuckLinks$World")] yX10_putParts cX10_putParts 7 ({ frames := 0, cells := 0, slots := 0, locals := 0 } : Room) [.ref a, .int (0 : Int32), .int p1, .int p2, .int p3, .int p4] [(a, .inl (cI, N, .inl (f)))] (fun (u : Unit) => (True)) (fun (_ : Unit) => []) := by
  intro sz
  refine body_of (y := yX10_putParts) (cc := cX10_putParts) (maxL := 7) (ret := none) (rm := ({ frames := 0, cells := 0, slots := 0, locals := 0 } : Room)) (wc := [(a, .inl (cI, N, .inl (f)))]) (tys := [(cI, .int), (cJ, .long), (cZ, .boolean), (cB, .byte), (cO, .object "LuckLinks$World")]) (D := D) (sz := sz) (own := RX10) (av := [.ref a, .int (0 : Int32), .int p1, .int p2, .int p3, .int p4]) (Qc := fun A => va_Qv (fun (u : Unit) => (True)) (fun u t => Aft D A ((fun (_ : Unit) => []) u) t) A) (by decide) rfl (Nat.le_of_ble_eq_true rfl) (fun p e s m below meth c A ls C hr hlk hin X hl => ?_)
  have hx := C.1
  have hb := C.2.1
  have hown := C.2.2.2.1
  have hts := C.2.2.2.2.1
  have hl : lv_has ls 7 [(0, .ref a), (1, .int (0 : Int32)), (2, .int p1), (3, .int p2), (4, .int p3), (5, .int p4)] := hl
  show W p l e _ s m _ below meth c s.heap [] 0 0 (MQ below (va_Qv (fun (u : Unit) => (True)) (fun u t => Aft D A ((fun (_ : Unit) => []) u) t) A) ([.ref a, .int (0 : Int32), .int p1, .int p2, .int p3, .int p4] : List Value).toArray s 0 0 A) (F0 m 0 ls [])
  have X : Wd D A s [(a, .inl (cI, N, .inl (f)))] s.heap [] := X
  obtain ⟨H, locs, eH, eL⟩ : ∃ H locs, H = s.heap ∧ locs = ([] : List Loc) := ⟨_, _, rfl, rfl⟩
  rw [← eH, ← eL] at X ⊢
  clear eH eL
  refine lv_iload_n hx hb dX10_putParts_0 rfl (lv_at hl 1 rfl) ?_
  refine lv_iconst (v := (4 : Int32)) hx hb dX10_putParts_1 (by decide) ?_
  refine lv_imul hx hb dX10_putParts_2 ?_
  refine x_eqi (show (0 : Int32) * (4 : Int32) = (0 : Int32) from by decide +kernel) ?_
  refine lv_istore (lv' := [(6, .int (0 : Int32)), (0, .ref a), (1, .int (0 : Int32)), (2, .int p1), (3, .int p2), (4, .int p3), (5, .int p4)]) hx hb dX10_putParts_3 hl (by decide) rfl (fun ls hl => ?_)
  refine lv_iload hx hb dX10_putParts_5 (lv_at hl 0 rfl) ?_
  refine lv_if_lt (tgt := 47) hx hb dX10_putParts_7 (by decide) (fun c0 => absurd c0 (by decide)) (fun _ => ?_)
  refine lv_iload hx hb dX10_putParts_10 (lv_at hl 0 rfl) ?_
  refine lv_iconst (v := (3 : Int32)) hx hb dX10_putParts_12 (by decide) ?_
  refine lv_iadd hx hb dX10_putParts_13 ?_
  refine x_eqi (show (0 : Int32) + (3 : Int32) = (3 : Int32) from by decide +kernel) ?_
  refine lv_aload_n hx hb dX10_putParts_14 rfl (lv_at hl 1 rfl) ?_
  refine x_alen C X 0 0 rfl rfl (v := (nI (N))) (rfl) dX10_putParts_15 ?_
  refine lv_icmp_ge (tgt := 47) hx hb dX10_putParts_16 (by decide) (fun c_1 => by exfalso; have h8 : ((N : Nat) : Int) ≤ (3 : Int) := (by have h9 := i_le c_1; simp only [nI_toInt (n := N) (by omega)] at h9; exact h9); omega) (fun c_1 => ?_)
  have fc_1 : (3 : Int) < ((N : Nat) : Int) := (by have h9 := i_nle c_1; simp only [nI_toInt (n := N) (by omega)] at h9; exact h9)
  refine lv_aload_n hx hb dX10_putParts_19 rfl (lv_at hl 1 rfl) ?_
  refine lv_iload hx hb dX10_putParts_20 (lv_at hl 0 rfl) ?_
  refine lv_iload_n hx hb dX10_putParts_22 rfl (lv_at hl 3 rfl) ?_
  refine x_iast C X 0 0 rfl rfl (j := 0) rfl (vp_in_nI (n := 0) (by omega) (by omega)) dX10_putParts_23 (fun H locs X => ?_)
  have X : Wd D A s [(a, .inl (cI, N, .inl (upd (f) (0) (p1))))] H locs := X
  refine lv_aload_n hx hb dX10_putParts_24 rfl (lv_at hl 1 rfl) ?_
  refine lv_iload hx hb dX10_putParts_25 (lv_at hl 0 rfl) ?_
  refine lv_iconst (v := (1 : Int32)) hx hb dX10_putParts_27 (by decide) ?_
  refine lv_iadd hx hb dX10_putParts_28 ?_
  refine x_eqi (show (0 : Int32) + (1 : Int32) = (1 : Int32) from by decide +kernel) ?_
  refine lv_iload_n hx hb dX10_putParts_29 rfl (lv_at hl 4 rfl) ?_
  refine x_iast C X 0 0 rfl rfl (j := 1) rfl (vp_in_nI (n := 1) (by omega) (by omega)) dX10_putParts_30 (fun H locs X => ?_)
  have X : Wd D A s [(a, .inl (cI, N, .inl (upd (upd (f) (0) (p1)) (1) (p2))))] H locs := X
  refine lv_aload_n hx hb dX10_putParts_31 rfl (lv_at hl 1 rfl) ?_
  refine lv_iload hx hb dX10_putParts_32 (lv_at hl 0 rfl) ?_
  refine lv_iconst (v := (2 : Int32)) hx hb dX10_putParts_34 (by decide) ?_
  refine lv_iadd hx hb dX10_putParts_35 ?_
  refine x_eqi (show (0 : Int32) + (2 : Int32) = (2 : Int32) from by decide +kernel) ?_
  refine lv_iload hx hb dX10_putParts_36 (lv_at hl 5 rfl) ?_
  refine x_iast C X 0 0 rfl rfl (j := 2) rfl (vp_in_nI (n := 2) (by omega) (by omega)) dX10_putParts_38 (fun H locs X => ?_)
  have X : Wd D A s [(a, .inl (cI, N, .inl (upd (upd (upd (f) (0) (p1)) (1) (p2)) (2) (p3))))] H locs := X
  refine lv_aload_n hx hb dX10_putParts_39 rfl (lv_at hl 1 rfl) ?_
  refine lv_iload hx hb dX10_putParts_40 (lv_at hl 0 rfl) ?_
  refine lv_iconst (v := (3 : Int32)) hx hb dX10_putParts_42 (by decide) ?_
  refine lv_iadd hx hb dX10_putParts_43 ?_
  refine x_eqi (show (0 : Int32) + (3 : Int32) = (3 : Int32) from by decide +kernel) ?_
  refine lv_iload hx hb dX10_putParts_44 (lv_at hl 6 rfl) ?_
  refine x_iast C X 0 0 rfl rfl (j := 3) rfl (vp_in_nI (n := 3) (by omega) (by omega)) dX10_putParts_46 (fun H locs X => ?_)
  have X : Wd D A s [(a, .inl (cI, N, .inl (upd (upd (upd (upd (f) (0) (p1)) (1) (p2)) (2) (p3)) (3) (p4))))] H locs := X
  exact x_vret C X hr hlk (()) [] (by decide) rfl (trivial) (Nat.le_of_ble_eq_true rfl) (Nat.le_of_ble_eq_true rfl) dX10_putParts_47
set_option maxHeartbeats 4000000 in
set_option maxRecDepth 100000 in
theorem c_addPlayer (l : Launch) (D : va_G) (cI cJ cZ cB : ClassId) (cO : ClassId) (w : Nat → Nat) (p1 p2 p3 p4 : Int32) :
    CI l D [(cI, .int), (cJ, .long), (cZ, .boolean), (cB, .byte), (cO, .object "LuckLinks$World")] yX10_addPlayer cX10_addPlayer 5 (some .int) ({ frames := 1, cells := 0, slots := 0, locals := 26 } : Room) [.ref (w 0), .int p1, .int p2, .int p3, .int p4] [((w 0), .inr (10, [.int (0 : Int32), .ref (w 1), .int (0 : Int32), .ref (w 2), .ref (w 3), .int (0 : Int32), .ref (w 4), .ref (w 5), .ref (w 6), .ref (w 7), .ref (w 8), .long (1 : Int64)])), ((w 1), .inl (cI, 80, .inl (fun _ => (0 : Int32))))] (fun (r : Int32) (u : Unit) => (r = (0 : Int32) ∧ True)) (fun (_ : Unit) => []) := by
  intro sz
  refine body_of (y := yX10_addPlayer) (cc := cX10_addPlayer) (maxL := 5) (ret := (some .int)) (rm := ({ frames := 1, cells := 0, slots := 0, locals := 26 } : Room)) (wc := [((w 0), .inr (10, [.int (0 : Int32), .ref (w 1), .int (0 : Int32), .ref (w 2), .ref (w 3), .int (0 : Int32), .ref (w 4), .ref (w 5), .ref (w 6), .ref (w 7), .ref (w 8), .long (1 : Int64)])), ((w 1), .inl (cI, 80, .inl (fun _ => (0 : Int32))))]) (tys := [(cI, .int), (cJ, .long), (cZ, .boolean), (cB, .byte), (cO, .object "LuckLinks$World")]) (D := D) (sz := sz) (own := RX10) (av := [.ref (w 0), .int p1, .int p2, .int p3, .int p4]) (Qc := fun A => va_Qi (fun (r : Int32) (u : Unit) => (r = (0 : Int32) ∧ True)) (fun u t => Aft D A ((fun (_ : Unit) => []) u) t) A) (by decide) rfl (Nat.le_of_ble_eq_true rfl) (fun p e s m below meth c A ls C hr hlk hin X hl => ?_)
  have hx := C.1
  have hb := C.2.1
  have hown := C.2.2.2.1
  have hts := C.2.2.2.2.1
  have hl : lv_has ls 5 [(0, .ref (w 0)), (1, .int p1), (2, .int p2), (3, .int p3), (4, .int p4)] := hl
  show W p l e _ s m _ below meth c s.heap [] 0 0 (MQ below (va_Qi (fun (r : Int32) (u : Unit) => (r = (0 : Int32) ∧ True)) (fun u t => Aft D A ((fun (_ : Unit) => []) u) t) A) ([.ref (w 0), .int p1, .int p2, .int p3, .int p4] : List Value).toArray s 0 0 A) (F0 m 0 ls [])
  have X : Wd D A s [((w 0), .inr (10, [.int (0 : Int32), .ref (w 1), .int (0 : Int32), .ref (w 2), .ref (w 3), .int (0 : Int32), .ref (w 4), .ref (w 5), .ref (w 6), .ref (w 7), .ref (w 8), .long (1 : Int64)])), ((w 1), .inl (cI, 80, .inl (fun _ => (0 : Int32))))] s.heap [] := X
  obtain ⟨H, locs, eH, eL⟩ : ∃ H locs, H = s.heap ∧ locs = ([] : List Loc) := ⟨_, _, rfl, rfl⟩
  rw [← eH, ← eL] at X ⊢
  clear eH eL
  refine lv_aload_n hx hb dX10_addPlayer_0 rfl (lv_at hl 0 rfl) ?_
  refine x_get (own := RX10) (T := TX10) C X 0 rfl rfl 1 (by decide) k_3_18 rfl rfl (v := .ref (w 1)) rfl dX10_addPlayer_1 ?_
  refine lv_aload_n hx hb dX10_addPlayer_4 rfl (lv_at hl 0 rfl) ?_
  refine x_get (own := RX10) (T := TX10) C X 0 rfl rfl 0 (by decide) k_3_17 rfl rfl (v := .int (0 : Int32)) rfl dX10_addPlayer_5 ?_
  refine lv_iload_n hx hb dX10_addPlayer_8 rfl (lv_at hl 1 rfl) ?_
  refine lv_iload_n hx hb dX10_addPlayer_9 rfl (lv_at hl 2 rfl) ?_
  refine lv_iload_n hx hb dX10_addPlayer_10 rfl (lv_at hl 3 rfl) ?_
  refine lv_iload hx hb dX10_addPlayer_11 (lv_at hl 4 rfl) ?_
  refine x_cSv (own := RX10) (wr := [((w 0), .inr (10, [.int (0 : Int32), .ref (w 1), .int (0 : Int32), .ref (w 2), .ref (w 3), .int (0 : Int32), .ref (w 4), .ref (w 5), .ref (w 6), .ref (w 7), .ref (w 8), .long (1 : Int64)]))]) (As := [.ref (w 1), .int (0 : Int32), .int p1, .int p2, .int p3, .int p4]) C X hl.1 (c_putParts l D cI cJ cZ cB cO (w 1) 80 (fun _ => (0 : Int32)) p1 p2 p3 p4 (by omega) (by omega)) [1] [0] ⟨rfl, rfl, by decide, by decide, by decide⟩ k_12_16 k_12_17 k_1_14 k_12_18 (n := 6) (by decide +kernel) ⟨Nat.le_of_ble_eq_true rfl, Nat.le_of_ble_eq_true rfl⟩ rfl rfl (Nat.le_of_ble_eq_true rfl) dX10_addPlayer_13 ⟨Nat.le_of_ble_eq_true rfl, Nat.le_of_ble_eq_true rfl⟩ (fun u_1 H locs w_3 X => ?_)
  have X : Wd D A s [((w 0), .inr (10, [.int (0 : Int32), .ref (w 1), .int (0 : Int32), .ref (w 2), .ref (w 3), .int (0 : Int32), .ref (w 4), .ref (w 5), .ref (w 6), .ref (w 7), .ref (w 8), .long (1 : Int64)]))] H locs := X
  refine W.widen (k := 0) (n := 0) (Nat.le_of_ble_eq_true rfl) (Nat.le_of_ble_eq_true rfl) ?_
  refine lv_aload_n hx hb dX10_addPlayer_16 rfl (lv_at hl 0 rfl) ?_
  refine lv_dup hx hb dX10_addPlayer_17 rfl ?_
  refine x_get (own := RX10) (T := TX10) C X 0 rfl rfl 0 (by decide) k_3_17 rfl rfl (v := .int (0 : Int32)) rfl dX10_addPlayer_18 ?_
  refine lv_iconst (v := (1 : Int32)) hx hb dX10_addPlayer_21 (by decide) ?_
  refine lv_iadd hx hb dX10_addPlayer_22 ?_
  refine x_eqi (show (0 : Int32) + (1 : Int32) = (1 : Int32) from by decide +kernel) ?_
  refine x_put (own := RX10) (T := TX10) C X 0 rfl rfl 0 (by decide) k_3_17 rfl rfl rfl (ty := .int) (v := .int (1 : Int32)) (by decide +kernel) rfl rfl (Nat.le_of_ble_eq_true rfl) dX10_addPlayer_23 (fun H locs X => ?_)
  have X : Wd D A s [((w 0), .inr (10, [.int (1 : Int32), .ref (w 1), .int (0 : Int32), .ref (w 2), .ref (w 3), .int (0 : Int32), .ref (w 4), .ref (w 5), .ref (w 6), .ref (w 7), .ref (w 8), .long (1 : Int64)]))] H locs := X
  refine lv_aload_n hx hb dX10_addPlayer_26 rfl (lv_at hl 0 rfl) ?_
  refine x_get (own := RX10) (T := TX10) C X 0 rfl rfl 0 (by decide) k_3_17 rfl rfl (v := .int (1 : Int32)) rfl dX10_addPlayer_27 ?_
  refine lv_iconst (v := (1 : Int32)) hx hb dX10_addPlayer_30 (by decide) ?_
  refine lv_isub hx hb dX10_addPlayer_31 ?_
  refine x_eqi (show (1 : Int32) - (1 : Int32) = (0 : Int32) from by decide +kernel) ?_
  exact x_iret C X hr hlk (v := (0 : Int32)) (by first | rfl | decide) (()) [] (by decide) rfl (⟨rfl, trivial⟩) (Nat.le_of_ble_eq_true rfl) (Nat.le_of_ble_eq_true rfl) dX10_addPlayer_32
set_option maxHeartbeats 4000000 in
set_option maxRecDepth 100000 in
theorem c_addCourse (l : Launch) (D : va_G) (cI cJ cZ cB : ClassId) (cO : ClassId) (w : Nat → Nat) (p1 p2 p3 p4 : Int32) :
    CI l D [(cI, .int), (cJ, .long), (cZ, .boolean), (cB, .byte), (cO, .object "LuckLinks$World")] yX10_addCourse cX10_addCourse 5 (some .int) ({ frames := 1, cells := 0, slots := 0, locals := 26 } : Room) [.ref (w 0), .int p1, .int p2, .int p3, .int p4] [((w 0), .inr (10, [.int (0 : Int32), .ref (w 1), .int (0 : Int32), .ref (w 2), .ref (w 3), .int (0 : Int32), .ref (w 4), .ref (w 5), .ref (w 6), .ref (w 7), .ref (w 8), .long (1 : Int64)])), ((w 2), .inl (cI, 24, .inl (fun _ => (0 : Int32))))] (fun (r : Int32) (u : Unit) => (r = (0 : Int32) ∧ True)) (fun (_ : Unit) => []) := by
  intro sz
  refine body_of (y := yX10_addCourse) (cc := cX10_addCourse) (maxL := 5) (ret := (some .int)) (rm := ({ frames := 1, cells := 0, slots := 0, locals := 26 } : Room)) (wc := [((w 0), .inr (10, [.int (0 : Int32), .ref (w 1), .int (0 : Int32), .ref (w 2), .ref (w 3), .int (0 : Int32), .ref (w 4), .ref (w 5), .ref (w 6), .ref (w 7), .ref (w 8), .long (1 : Int64)])), ((w 2), .inl (cI, 24, .inl (fun _ => (0 : Int32))))]) (tys := [(cI, .int), (cJ, .long), (cZ, .boolean), (cB, .byte), (cO, .object "LuckLinks$World")]) (D := D) (sz := sz) (own := RX10) (av := [.ref (w 0), .int p1, .int p2, .int p3, .int p4]) (Qc := fun A => va_Qi (fun (r : Int32) (u : Unit) => (r = (0 : Int32) ∧ True)) (fun u t => Aft D A ((fun (_ : Unit) => []) u) t) A) (by decide) rfl (Nat.le_of_ble_eq_true rfl) (fun p e s m below meth c A ls C hr hlk hin X hl => ?_)
  have hx := C.1
  have hb := C.2.1
  have hown := C.2.2.2.1
  have hts := C.2.2.2.2.1
  have hl : lv_has ls 5 [(0, .ref (w 0)), (1, .int p1), (2, .int p2), (3, .int p3), (4, .int p4)] := hl
  show W p l e _ s m _ below meth c s.heap [] 0 0 (MQ below (va_Qi (fun (r : Int32) (u : Unit) => (r = (0 : Int32) ∧ True)) (fun u t => Aft D A ((fun (_ : Unit) => []) u) t) A) ([.ref (w 0), .int p1, .int p2, .int p3, .int p4] : List Value).toArray s 0 0 A) (F0 m 0 ls [])
  have X : Wd D A s [((w 0), .inr (10, [.int (0 : Int32), .ref (w 1), .int (0 : Int32), .ref (w 2), .ref (w 3), .int (0 : Int32), .ref (w 4), .ref (w 5), .ref (w 6), .ref (w 7), .ref (w 8), .long (1 : Int64)])), ((w 2), .inl (cI, 24, .inl (fun _ => (0 : Int32))))] s.heap [] := X
  obtain ⟨H, locs, eH, eL⟩ : ∃ H locs, H = s.heap ∧ locs = ([] : List Loc) := ⟨_, _, rfl, rfl⟩
  rw [← eH, ← eL] at X ⊢
  clear eH eL
  refine lv_aload_n hx hb dX10_addCourse_0 rfl (lv_at hl 0 rfl) ?_
  refine x_get (own := RX10) (T := TX10) C X 0 rfl rfl 3 (by decide) k_3_20 rfl rfl (v := .ref (w 2)) rfl dX10_addCourse_1 ?_
  refine lv_aload_n hx hb dX10_addCourse_4 rfl (lv_at hl 0 rfl) ?_
  refine x_get (own := RX10) (T := TX10) C X 0 rfl rfl 2 (by decide) k_3_19 rfl rfl (v := .int (0 : Int32)) rfl dX10_addCourse_5 ?_
  refine lv_iload_n hx hb dX10_addCourse_8 rfl (lv_at hl 1 rfl) ?_
  refine lv_iload_n hx hb dX10_addCourse_9 rfl (lv_at hl 2 rfl) ?_
  refine lv_iload_n hx hb dX10_addCourse_10 rfl (lv_at hl 3 rfl) ?_
  refine lv_iload hx hb dX10_addCourse_11 (lv_at hl 4 rfl) ?_
  refine x_cSv (own := RX10) (wr := [((w 0), .inr (10, [.int (0 : Int32), .ref (w 1), .int (0 : Int32), .ref (w 2), .ref (w 3), .int (0 : Int32), .ref (w 4), .ref (w 5), .ref (w 6), .ref (w 7), .ref (w 8), .long (1 : Int64)]))]) (As := [.ref (w 2), .int (0 : Int32), .int p1, .int p2, .int p3, .int p4]) C X hl.1 (c_putParts l D cI cJ cZ cB cO (w 2) 24 (fun _ => (0 : Int32)) p1 p2 p3 p4 (by omega) (by omega)) [1] [0] ⟨rfl, rfl, by decide, by decide, by decide⟩ k_12_16 k_12_17 k_1_14 k_12_18 (n := 6) (by decide +kernel) ⟨Nat.le_of_ble_eq_true rfl, Nat.le_of_ble_eq_true rfl⟩ rfl rfl (Nat.le_of_ble_eq_true rfl) dX10_addCourse_13 ⟨Nat.le_of_ble_eq_true rfl, Nat.le_of_ble_eq_true rfl⟩ (fun u_1 H locs w_3 X => ?_)
  have X : Wd D A s [((w 0), .inr (10, [.int (0 : Int32), .ref (w 1), .int (0 : Int32), .ref (w 2), .ref (w 3), .int (0 : Int32), .ref (w 4), .ref (w 5), .ref (w 6), .ref (w 7), .ref (w 8), .long (1 : Int64)]))] H locs := X
  refine W.widen (k := 0) (n := 0) (Nat.le_of_ble_eq_true rfl) (Nat.le_of_ble_eq_true rfl) ?_
  refine lv_aload_n hx hb dX10_addCourse_16 rfl (lv_at hl 0 rfl) ?_
  refine lv_dup hx hb dX10_addCourse_17 rfl ?_
  refine x_get (own := RX10) (T := TX10) C X 0 rfl rfl 2 (by decide) k_3_19 rfl rfl (v := .int (0 : Int32)) rfl dX10_addCourse_18 ?_
  refine lv_iconst (v := (1 : Int32)) hx hb dX10_addCourse_21 (by decide) ?_
  refine lv_iadd hx hb dX10_addCourse_22 ?_
  refine x_eqi (show (0 : Int32) + (1 : Int32) = (1 : Int32) from by decide +kernel) ?_
  refine x_put (own := RX10) (T := TX10) C X 0 rfl rfl 2 (by decide) k_3_19 rfl rfl rfl (ty := .int) (v := .int (1 : Int32)) (by decide +kernel) rfl rfl (Nat.le_of_ble_eq_true rfl) dX10_addCourse_23 (fun H locs X => ?_)
  have X : Wd D A s [((w 0), .inr (10, [.int (0 : Int32), .ref (w 1), .int (1 : Int32), .ref (w 2), .ref (w 3), .int (0 : Int32), .ref (w 4), .ref (w 5), .ref (w 6), .ref (w 7), .ref (w 8), .long (1 : Int64)]))] H locs := X
  refine lv_aload_n hx hb dX10_addCourse_26 rfl (lv_at hl 0 rfl) ?_
  refine x_get (own := RX10) (T := TX10) C X 0 rfl rfl 2 (by decide) k_3_19 rfl rfl (v := .int (1 : Int32)) rfl dX10_addCourse_27 ?_
  refine lv_iconst (v := (1 : Int32)) hx hb dX10_addCourse_30 (by decide) ?_
  refine lv_isub hx hb dX10_addCourse_31 ?_
  refine x_eqi (show (1 : Int32) - (1 : Int32) = (0 : Int32) from by decide +kernel) ?_
  exact x_iret C X hr hlk (v := (0 : Int32)) (by first | rfl | decide) (()) [] (by decide) rfl (⟨rfl, trivial⟩) (Nat.le_of_ble_eq_true rfl) (Nat.le_of_ble_eq_true rfl) dX10_addCourse_32
end
section
theorem k_1_10 : Cond.instanceMethod objectInit ∈ wsL_law := mr_1 _ (List.mem_of_getElem? (i := 10) rfl)
theorem k_1_11 : Cond.code objectInit ⟨#[0xb1]⟩ 1 none ∈ wsL_law := mr_1 _ (List.mem_of_getElem? (i := 11) rfl)
theorem k_1_18 : Cond.arrayClass .byte ∈ wsL_law := mr_1 _ (List.mem_of_getElem? (i := 18) rfl)
theorem k_2_2 : Cond.instantiable RX3 19 ∈ wsL_law := mr_2 _ (List.mem_of_getElem? (i := 2) rfl)
theorem k_2_3 : Cond.initialized RX3 ∈ wsL_law := mr_2 _ (List.mem_of_getElem? (i := 3) rfl)
theorem k_2_7 : Cond.arrayClass .int ∈ wsL_law := mr_2 _ (List.mem_of_getElem? (i := 7) rfl)
theorem k_3_16 : Cond.methodLink RX10 3 objectInit ∈ wsL_law := mr_3 _ (List.mem_of_getElem? (i := 16) rfl)
theorem k_3_22 : Cond.fieldLink RX10 28 "LuckLinks$World" "rounds" "I" ∈ wsL_law := mr_3 _ (List.mem_of_getElem? (i := 22) rfl)
theorem k_4_0 : Cond.fieldLink RX10 34 "LuckLinks$World" "values" "[I" ∈ wsL_law := mr_4 _ (List.mem_of_getElem? (i := 0) rfl)
theorem k_4_12 : Cond.methodLink RX4 3 objectInit ∈ wsL_law := mr_4 _ (List.mem_of_getElem? (i := 12) rfl)
theorem k_4_13 : Cond.fieldLink RX4 9 "LuckLinks$LawReader" "text" "[B" ∈ wsL_law := mr_4 _ (List.mem_of_getElem? (i := 13) rfl)
theorem k_4_14 : Cond.classLink RX4 15 RX3 ∈ wsL_law := mr_4 _ (List.mem_of_getElem? (i := 14) rfl)
theorem k_4_15 : Cond.fieldLink RX4 18 "LuckLinks$LawReader" "law" "LLuckLinks$Law;" ∈ wsL_law := mr_4 _ (List.mem_of_getElem? (i := 15) rfl)
theorem k_4_16 : Cond.fieldLink RX4 22 "LuckLinks$LawReader" "kinds" "[I" ∈ wsL_law := mr_4 _ (List.mem_of_getElem? (i := 16) rfl)
theorem k_4_17 : Cond.fieldLink RX4 26 "LuckLinks$LawReader" "starts" "[I" ∈ wsL_law := mr_4 _ (List.mem_of_getElem? (i := 17) rfl)
theorem k_4_18 : Cond.fieldLink RX4 29 "LuckLinks$LawReader" "ends" "[I" ∈ wsL_law := mr_4 _ (List.mem_of_getElem? (i := 18) rfl)
theorem k_4_19 : Cond.fieldLink RX4 32 "LuckLinks$LawReader" "at" "I" ∈ wsL_law := mr_4 _ (List.mem_of_getElem? (i := 19) rfl)
theorem k_4_2 : Cond.fieldLink RX10 40 "LuckLinks$World" "dayValues" "[I" ∈ wsL_law := mr_4 _ (List.mem_of_getElem? (i := 2) rfl)
theorem k_4_20 : Cond.fieldLink RX4 36 "LuckLinks$LawReader" "number" "I" ∈ wsL_law := mr_4 _ (List.mem_of_getElem? (i := 20) rfl)
theorem k_4_21 : Cond.fieldLink RX4 39 "LuckLinks$LawReader" "part" "I" ∈ wsL_law := mr_4 _ (List.mem_of_getElem? (i := 21) rfl)
theorem k_4_22 : Cond.fieldLink RX4 42 "LuckLinks$LawReader" "waiting" "[I" ∈ wsL_law := mr_4 _ (List.mem_of_getElem? (i := 22) rfl)
theorem k_4_23 : Cond.fieldLink RX4 45 "LuckLinks$LawReader" "waits" "I" ∈ wsL_law := mr_4 _ (List.mem_of_getElem? (i := 23) rfl)
theorem k_4_3 : Cond.fieldLink RX10 43 "LuckLinks$World" "bets" "[I" ∈ wsL_law := mr_4 _ (List.mem_of_getElem? (i := 3) rfl)
theorem k_4_4 : Cond.fieldLink RX10 46 "LuckLinks$World" "z" "J" ∈ wsL_law := mr_4 _ (List.mem_of_getElem? (i := 4) rfl)
theorem k_4_5 : Cond.methodLink RX10 50 yJ7_fill_53178 ∈ wsL_law := mr_4 _ (List.mem_of_getElem? (i := 5) rfl)
theorem k_4_6 : Cond.static yJ7_fill_53178 ∈ wsL_law := mr_4 _ (List.mem_of_getElem? (i := 6) rfl)
theorem k_4_7 : Cond.initialized RJ7 ∈ wsL_law := mr_4 _ (List.mem_of_getElem? (i := 7) rfl)
theorem k_4_8 : Cond.code yJ7_fill_53178 cJ7_fill_53178 4 none ∈ wsL_law := mr_4 _ (List.mem_of_getElem? (i := 8) rfl)
theorem k_5_0 : Cond.fieldLink RX4 48 "LuckLinks$LawReader" "open" "I" ∈ wsL_law := mr_5 _ (List.mem_of_getElem? (i := 0) rfl)
theorem k_5_1 : Cond.fieldLink RX4 51 "LuckLinks$LawReader" "brackets" "I" ∈ wsL_law := mr_5 _ (List.mem_of_getElem? (i := 1) rfl)
theorem k_5_10 : Cond.fieldLink RX3 25 "LuckLinks$Law" "prizes" "[I" ∈ wsL_law := mr_5 _ (List.mem_of_getElem? (i := 10) rfl)
theorem k_5_11 : Cond.fieldLink RX3 28 "LuckLinks$Law" "points" "[I" ∈ wsL_law := mr_5 _ (List.mem_of_getElem? (i := 11) rfl)
theorem k_5_12 : Cond.fieldLink RX3 31 "LuckLinks$Law" "weights" "[I" ∈ wsL_law := mr_5 _ (List.mem_of_getElem? (i := 12) rfl)
theorem k_5_13 : Cond.fieldLink RX3 34 "LuckLinks$Law" "weightsByAge" "[I" ∈ wsL_law := mr_5 _ (List.mem_of_getElem? (i := 13) rfl)
theorem k_5_14 : Cond.fieldLink RX3 37 "LuckLinks$Law" "hourRules" "I" ∈ wsL_law := mr_5 _ (List.mem_of_getElem? (i := 14) rfl)
theorem k_5_15 : Cond.fieldLink RX3 40 "LuckLinks$Law" "hourParts" "[I" ∈ wsL_law := mr_5 _ (List.mem_of_getElem? (i := 15) rfl)
theorem k_5_16 : Cond.fieldLink RX3 43 "LuckLinks$Law" "hourStrokes" "[I" ∈ wsL_law := mr_5 _ (List.mem_of_getElem? (i := 16) rfl)
theorem k_5_17 : Cond.fieldLink RX3 46 "LuckLinks$Law" "hourFroms" "[I" ∈ wsL_law := mr_5 _ (List.mem_of_getElem? (i := 17) rfl)
theorem k_5_18 : Cond.fieldLink RX3 49 "LuckLinks$Law" "pressRules" "I" ∈ wsL_law := mr_5 _ (List.mem_of_getElem? (i := 18) rfl)
theorem k_5_19 : Cond.fieldLink RX3 52 "LuckLinks$Law" "pressParts" "[I" ∈ wsL_law := mr_5 _ (List.mem_of_getElem? (i := 19) rfl)
theorem k_5_2 : Cond.methodLink RX4 17 yX3_init ∈ wsL_law := mr_5 _ (List.mem_of_getElem? (i := 2) rfl)
theorem k_5_20 : Cond.fieldLink RX3 55 "LuckLinks$Law" "pressStrokes" "[I" ∈ wsL_law := mr_5 _ (List.mem_of_getElem? (i := 20) rfl)
theorem k_5_21 : Cond.fieldLink RX3 58 "LuckLinks$Law" "pressEnds" "[I" ∈ wsL_law := mr_5 _ (List.mem_of_getElem? (i := 21) rfl)
theorem k_5_22 : Cond.fieldLink RX3 61 "LuckLinks$Law" "code" "[I" ∈ wsL_law := mr_5 _ (List.mem_of_getElem? (i := 22) rfl)
theorem k_5_23 : Cond.fieldLink RX3 64 "LuckLinks$Law" "codeLength" "I" ∈ wsL_law := mr_5 _ (List.mem_of_getElem? (i := 23) rfl)
theorem k_5_3 : Cond.instanceMethod yX3_init ∈ wsL_law := mr_5 _ (List.mem_of_getElem? (i := 3) rfl)
theorem k_5_4 : Cond.code yX3_init cX3_init 1 none ∈ wsL_law := mr_5 _ (List.mem_of_getElem? (i := 4) rfl)
theorem k_5_5 : Cond.methodLink RX3 3 objectInit ∈ wsL_law := mr_5 _ (List.mem_of_getElem? (i := 5) rfl)
theorem k_5_6 : Cond.fieldLink RX3 9 "LuckLinks$Law" "rules" "I" ∈ wsL_law := mr_5 _ (List.mem_of_getElem? (i := 6) rfl)
theorem k_5_7 : Cond.fieldLink RX3 15 "LuckLinks$Law" "drifts" "[I" ∈ wsL_law := mr_5 _ (List.mem_of_getElem? (i := 7) rfl)
theorem k_5_8 : Cond.fieldLink RX3 19 "LuckLinks$Law" "lucks" "[I" ∈ wsL_law := mr_5 _ (List.mem_of_getElem? (i := 8) rfl)
theorem k_5_9 : Cond.fieldLink RX3 22 "LuckLinks$Law" "keeps" "[I" ∈ wsL_law := mr_5 _ (List.mem_of_getElem? (i := 9) rfl)
theorem k_6_0 : Cond.arrayClass .boolean ∈ wsL_law := mr_6 _ (List.mem_of_getElem? (i := 0) rfl)
theorem k_6_1 : Cond.fieldLink RX3 67 "LuckLinks$Law" "stack" "[Z" ∈ wsL_law := mr_6 _ (List.mem_of_getElem? (i := 1) rfl)
theorem k_6_13 : Cond.methodLink RX9 3 objectInit ∈ wsL_law := mr_6 _ (List.mem_of_getElem? (i := 13) rfl)
theorem k_6_14 : Cond.classLink RX9 9 RX5 ∈ wsL_law := mr_6 _ (List.mem_of_getElem? (i := 14) rfl)
theorem k_6_15 : Cond.instantiable RX5 3 ∈ wsL_law := mr_6 _ (List.mem_of_getElem? (i := 15) rfl)
theorem k_6_16 : Cond.initialized RX5 ∈ wsL_law := mr_6 _ (List.mem_of_getElem? (i := 16) rfl)
theorem k_6_17 : Cond.fieldLink RX9 12 "LuckLinks$WeekDrawing" "order" "LLuckLinks$Ranking;" ∈ wsL_law := mr_6 _ (List.mem_of_getElem? (i := 17) rfl)
theorem k_6_18 : Cond.fieldLink RX9 18 "LuckLinks$WeekDrawing" "sums" "LLuckLinks$Ranking;" ∈ wsL_law := mr_6 _ (List.mem_of_getElem? (i := 18) rfl)
theorem k_6_19 : Cond.fieldLink RX9 21 "LuckLinks$WeekDrawing" "asked" "[I" ∈ wsL_law := mr_6 _ (List.mem_of_getElem? (i := 19) rfl)
theorem k_6_2 : Cond.methodLink RX3 71 yJ7_fill_53178 ∈ wsL_law := mr_6 _ (List.mem_of_getElem? (i := 2) rfl)
theorem k_6_20 : Cond.fieldLink RX9 25 "LuckLinks$WeekDrawing" "world" "LLuckLinks$World;" ∈ wsL_law := mr_6 _ (List.mem_of_getElem? (i := 20) rfl)
theorem k_6_21 : Cond.methodLink RX9 11 yX5_init ∈ wsL_law := mr_6 _ (List.mem_of_getElem? (i := 21) rfl)
theorem k_6_22 : Cond.instanceMethod yX5_init ∈ wsL_law := mr_6 _ (List.mem_of_getElem? (i := 22) rfl)
theorem k_6_23 : Cond.code yX5_init cX5_init 1 none ∈ wsL_law := mr_6 _ (List.mem_of_getElem? (i := 23) rfl)
theorem k_6_7 : Cond.methodLink RX6 1 objectInit ∈ wsL_law := mr_6 _ (List.mem_of_getElem? (i := 7) rfl)
theorem k_6_8 : Cond.fieldLink RX6 7 "LuckLinks$Ratio" "upper" "J" ∈ wsL_law := mr_6 _ (List.mem_of_getElem? (i := 8) rfl)
theorem k_6_9 : Cond.fieldLink RX6 13 "LuckLinks$Ratio" "lower" "J" ∈ wsL_law := mr_6 _ (List.mem_of_getElem? (i := 9) rfl)
theorem k_7_0 : Cond.methodLink RX5 3 objectInit ∈ wsL_law := mr_7 _ (List.mem_of_getElem? (i := 0) rfl)
theorem k_7_1 : Cond.fieldLink RX5 9 "LuckLinks$Ranking" "who" "[I" ∈ wsL_law := mr_7 _ (List.mem_of_getElem? (i := 1) rfl)
theorem k_7_10 : Cond.fieldLink RX7 18 "LuckLinks$Standings" "gains" "[I" ∈ wsL_law := mr_7 _ (List.mem_of_getElem? (i := 10) rfl)
theorem k_7_11 : Cond.fieldLink RX7 22 "LuckLinks$Standings" "world" "LLuckLinks$World;" ∈ wsL_law := mr_7 _ (List.mem_of_getElem? (i := 11) rfl)
theorem k_7_12 : Cond.methodLink RX7 11 yX5_init ∈ wsL_law := mr_7 _ (List.mem_of_getElem? (i := 12) rfl)
theorem k_7_16 : Cond.methodLink RX1 3 objectInit ∈ wsL_law := mr_7 _ (List.mem_of_getElem? (i := 16) rfl)
theorem k_7_17 : Cond.arrayClass .long ∈ wsL_law := mr_7 _ (List.mem_of_getElem? (i := 17) rfl)
theorem k_7_18 : Cond.fieldLink RX1 9 "LuckLinks$Form" "offs" "[J" ∈ wsL_law := mr_7 _ (List.mem_of_getElem? (i := 18) rfl)
theorem k_7_19 : Cond.fieldLink RX1 15 "LuckLinks$Form" "many" "[I" ∈ wsL_law := mr_7 _ (List.mem_of_getElem? (i := 19) rfl)
theorem k_7_2 : Cond.fieldLink RX5 15 "LuckLinks$Ranking" "keys" "[I" ∈ wsL_law := mr_7 _ (List.mem_of_getElem? (i := 2) rfl)
theorem k_7_20 : Cond.fieldLink RX1 19 "LuckLinks$Form" "upper" "J" ∈ wsL_law := mr_7 _ (List.mem_of_getElem? (i := 20) rfl)
theorem k_7_21 : Cond.fieldLink RX1 23 "LuckLinks$Form" "lower" "J" ∈ wsL_law := mr_7 _ (List.mem_of_getElem? (i := 21) rfl)
theorem k_7_22 : Cond.fieldLink RX1 26 "LuckLinks$Form" "world" "LLuckLinks$World;" ∈ wsL_law := mr_7 _ (List.mem_of_getElem? (i := 22) rfl)
theorem k_7_3 : Cond.fieldLink RX5 18 "LuckLinks$Ranking" "size" "I" ∈ wsL_law := mr_7 _ (List.mem_of_getElem? (i := 3) rfl)
theorem k_7_7 : Cond.methodLink RX7 3 objectInit ∈ wsL_law := mr_7 _ (List.mem_of_getElem? (i := 7) rfl)
theorem k_7_8 : Cond.classLink RX7 9 RX5 ∈ wsL_law := mr_7 _ (List.mem_of_getElem? (i := 8) rfl)
theorem k_7_9 : Cond.fieldLink RX7 12 "LuckLinks$Standings" "ranking" "LLuckLinks$Ranking;" ∈ wsL_law := mr_7 _ (List.mem_of_getElem? (i := 9) rfl)
theorem k_8_10 : Cond.fieldLink RX2 34 "LuckLinks$Halves" "world" "LLuckLinks$World;" ∈ wsL_law := mr_8 _ (List.mem_of_getElem? (i := 10) rfl)
theorem k_8_14 : Cond.methodLink RX0 5 objectInit ∈ wsL_law := mr_8 _ (List.mem_of_getElem? (i := 14) rfl)
theorem k_8_15 : Cond.fieldLink RX0 11 "LuckLinks$Chances" "lot" "[J" ∈ wsL_law := mr_8 _ (List.mem_of_getElem? (i := 15) rfl)
theorem k_8_16 : Cond.fieldLink RX0 15 "LuckLinks$Chances" "waysSoFar" "[J" ∈ wsL_law := mr_8 _ (List.mem_of_getElem? (i := 16) rfl)
theorem k_8_17 : Cond.fieldLink RX0 18 "LuckLinks$Chances" "lotFrom" "[J" ∈ wsL_law := mr_8 _ (List.mem_of_getElem? (i := 17) rfl)
theorem k_8_18 : Cond.fieldLink RX0 21 "LuckLinks$Chances" "step" "[J" ∈ wsL_law := mr_8 _ (List.mem_of_getElem? (i := 18) rfl)
theorem k_8_19 : Cond.fieldLink RX0 24 "LuckLinks$Chances" "gap" "[J" ∈ wsL_law := mr_8 _ (List.mem_of_getElem? (i := 19) rfl)
theorem k_8_2 : Cond.methodLink RX2 3 objectInit ∈ wsL_law := mr_8 _ (List.mem_of_getElem? (i := 2) rfl)
theorem k_8_20 : Cond.fieldLink RX0 27 "LuckLinks$Chances" "nextGap" "[J" ∈ wsL_law := mr_8 _ (List.mem_of_getElem? (i := 20) rfl)
theorem k_8_21 : Cond.fieldLink RX0 30 "LuckLinks$Chances" "greatestStep" "J" ∈ wsL_law := mr_8 _ (List.mem_of_getElem? (i := 21) rfl)
theorem k_8_22 : Cond.fieldLink RX0 34 "LuckLinks$Chances" "reach" "I" ∈ wsL_law := mr_8 _ (List.mem_of_getElem? (i := 22) rfl)
theorem k_8_23 : Cond.fieldLink RX0 38 "LuckLinks$Chances" "strokes" "[I" ∈ wsL_law := mr_8 _ (List.mem_of_getElem? (i := 23) rfl)
theorem k_8_3 : Cond.fieldLink RX2 9 "LuckLinks$Halves" "firstOffs" "[J" ∈ wsL_law := mr_8 _ (List.mem_of_getElem? (i := 3) rfl)
theorem k_8_4 : Cond.fieldLink RX2 15 "LuckLinks$Halves" "firstRounds" "[J" ∈ wsL_law := mr_8 _ (List.mem_of_getElem? (i := 4) rfl)
theorem k_8_5 : Cond.fieldLink RX2 18 "LuckLinks$Halves" "laterOffs" "[J" ∈ wsL_law := mr_8 _ (List.mem_of_getElem? (i := 5) rfl)
theorem k_8_6 : Cond.fieldLink RX2 21 "LuckLinks$Halves" "laterRounds" "[J" ∈ wsL_law := mr_8 _ (List.mem_of_getElem? (i := 6) rfl)
theorem k_8_7 : Cond.fieldLink RX2 24 "LuckLinks$Halves" "alike" "I" ∈ wsL_law := mr_8 _ (List.mem_of_getElem? (i := 7) rfl)
theorem k_8_8 : Cond.fieldLink RX2 28 "LuckLinks$Halves" "unlike" "I" ∈ wsL_law := mr_8 _ (List.mem_of_getElem? (i := 8) rfl)
theorem k_8_9 : Cond.fieldLink RX2 31 "LuckLinks$Halves" "inBoth" "I" ∈ wsL_law := mr_8 _ (List.mem_of_getElem? (i := 9) rfl)
theorem k_9_10 : Cond.fieldLink RX8 31 "LuckLinks$Tallies" "couples" "J" ∈ wsL_law := mr_9 _ (List.mem_of_getElem? (i := 10) rfl)
theorem k_9_11 : Cond.fieldLink RX8 34 "LuckLinks$Tallies" "world" "LLuckLinks$World;" ∈ wsL_law := mr_9 _ (List.mem_of_getElem? (i := 11) rfl)
theorem k_9_3 : Cond.methodLink RX8 3 objectInit ∈ wsL_law := mr_9 _ (List.mem_of_getElem? (i := 3) rfl)
theorem k_9_4 : Cond.fieldLink RX8 9 "LuckLinks$Tallies" "pressWeeks" "I" ∈ wsL_law := mr_9 _ (List.mem_of_getElem? (i := 4) rfl)
theorem k_9_5 : Cond.fieldLink RX8 15 "LuckLinks$Tallies" "pressYes" "I" ∈ wsL_law := mr_9 _ (List.mem_of_getElem? (i := 5) rfl)
theorem k_9_6 : Cond.fieldLink RX8 18 "LuckLinks$Tallies" "otherOne" "I" ∈ wsL_law := mr_9 _ (List.mem_of_getElem? (i := 6) rfl)
theorem k_9_7 : Cond.fieldLink RX8 21 "LuckLinks$Tallies" "looked" "I" ∈ wsL_law := mr_9 _ (List.mem_of_getElem? (i := 7) rfl)
theorem k_9_8 : Cond.fieldLink RX8 24 "LuckLinks$Tallies" "otherRows" "J" ∈ wsL_law := mr_9 _ (List.mem_of_getElem? (i := 8) rfl)
theorem k_9_9 : Cond.fieldLink RX8 28 "LuckLinks$Tallies" "squares" "J" ∈ wsL_law := mr_9 _ (List.mem_of_getElem? (i := 9) rfl)
theorem dX0_init_0 : decode cX0_init 0 = .ok (.aload_n 0, 1) := by decide +kernel
theorem dX0_init_1 : decode cX0_init 1 = .ok (.invokespecial 5, 3) := by decide +kernel
theorem dX0_init_4 : decode cX0_init 4 = .ok (.aload_n 0, 1) := by decide +kernel
theorem dX0_init_5 : decode cX0_init 5 = .ok (.bipush 73, 2) := by decide +kernel
theorem dX0_init_7 : decode cX0_init 7 = .ok (.newarray .long, 2) := by decide +kernel
theorem dX0_init_9 : decode cX0_init 9 = .ok (.putfield 11, 3) := by decide +kernel
theorem dX0_init_12 : decode cX0_init 12 = .ok (.aload_n 0, 1) := by decide +kernel
theorem dX0_init_13 : decode cX0_init 13 = .ok (.bipush 73, 2) := by decide +kernel
theorem dX0_init_15 : decode cX0_init 15 = .ok (.newarray .long, 2) := by decide +kernel
theorem dX0_init_17 : decode cX0_init 17 = .ok (.putfield 15, 3) := by decide +kernel
theorem dX0_init_20 : decode cX0_init 20 = .ok (.aload_n 0, 1) := by decide +kernel
theorem dX0_init_21 : decode cX0_init 21 = .ok (.bipush 74, 2) := by decide +kernel
theorem dX0_init_23 : decode cX0_init 23 = .ok (.newarray .long, 2) := by decide +kernel
theorem dX0_init_25 : decode cX0_init 25 = .ok (.putfield 18, 3) := by decide +kernel
theorem dX0_init_28 : decode cX0_init 28 = .ok (.aload_n 0, 1) := by decide +kernel
theorem dX0_init_29 : decode cX0_init 29 = .ok (.sipush 145, 3) := by decide +kernel
theorem dX0_init_32 : decode cX0_init 32 = .ok (.newarray .long, 2) := by decide +kernel
theorem dX0_init_34 : decode cX0_init 34 = .ok (.putfield 21, 3) := by decide +kernel
theorem dX0_init_37 : decode cX0_init 37 = .ok (.aload_n 0, 1) := by decide +kernel
theorem dX0_init_38 : decode cX0_init 38 = .ok (.sipush 4321, 3) := by decide +kernel
theorem dX0_init_41 : decode cX0_init 41 = .ok (.newarray .long, 2) := by decide +kernel
theorem dX0_init_43 : decode cX0_init 43 = .ok (.putfield 24, 3) := by decide +kernel
theorem dX0_init_46 : decode cX0_init 46 = .ok (.aload_n 0, 1) := by decide +kernel
theorem dX0_init_47 : decode cX0_init 47 = .ok (.sipush 4321, 3) := by decide +kernel
theorem dX0_init_50 : decode cX0_init 50 = .ok (.newarray .long, 2) := by decide +kernel
theorem dX0_init_52 : decode cX0_init 52 = .ok (.putfield 27, 3) := by decide +kernel
theorem dX0_init_55 : decode cX0_init 55 = .ok (.aload_n 0, 1) := by decide +kernel
theorem dX0_init_56 : decode cX0_init 56 = .ok (.lconst 0, 1) := by decide +kernel
theorem dX0_init_57 : decode cX0_init 57 = .ok (.putfield 30, 3) := by decide +kernel
theorem dX0_init_60 : decode cX0_init 60 = .ok (.aload_n 0, 1) := by decide +kernel
theorem dX0_init_61 : decode cX0_init 61 = .ok (.iconst 0, 1) := by decide +kernel
theorem dX0_init_62 : decode cX0_init 62 = .ok (.putfield 34, 3) := by decide +kernel
theorem dX0_init_65 : decode cX0_init 65 = .ok (.aload_n 0, 1) := by decide +kernel
theorem dX0_init_66 : decode cX0_init 66 = .ok (.bipush 20, 2) := by decide +kernel
theorem dX0_init_68 : decode cX0_init 68 = .ok (.newarray .int, 2) := by decide +kernel
theorem dX0_init_70 : decode cX0_init 70 = .ok (.putfield 38, 3) := by decide +kernel
theorem dX0_init_73 : decode cX0_init 73 = .ok (.return_, 1) := by decide +kernel
theorem dX10_init_0 : decode cX10_init 0 = .ok (.aload_n 0, 1) := by decide +kernel
theorem dX10_init_1 : decode cX10_init 1 = .ok (.invokespecial 3, 3) := by decide +kernel
theorem dX10_init_4 : decode cX10_init 4 = .ok (.aload_n 0, 1) := by decide +kernel
theorem dX10_init_5 : decode cX10_init 5 = .ok (.iconst 0, 1) := by decide +kernel
theorem dX10_init_6 : decode cX10_init 6 = .ok (.putfield 9, 3) := by decide +kernel
theorem dX10_init_9 : decode cX10_init 9 = .ok (.aload_n 0, 1) := by decide +kernel
theorem dX10_init_10 : decode cX10_init 10 = .ok (.bipush 80, 2) := by decide +kernel
theorem dX10_init_12 : decode cX10_init 12 = .ok (.newarray .int, 2) := by decide +kernel
theorem dX10_init_14 : decode cX10_init 14 = .ok (.putfield 15, 3) := by decide +kernel
theorem dX10_init_17 : decode cX10_init 17 = .ok (.aload_n 0, 1) := by decide +kernel
theorem dX10_init_18 : decode cX10_init 18 = .ok (.iconst 0, 1) := by decide +kernel
theorem dX10_init_19 : decode cX10_init 19 = .ok (.putfield 19, 3) := by decide +kernel
theorem dX10_init_22 : decode cX10_init 22 = .ok (.aload_n 0, 1) := by decide +kernel
theorem dX10_init_23 : decode cX10_init 23 = .ok (.bipush 24, 2) := by decide +kernel
theorem dX10_init_25 : decode cX10_init 25 = .ok (.newarray .int, 2) := by decide +kernel
theorem dX10_init_27 : decode cX10_init 27 = .ok (.putfield 22, 3) := by decide +kernel
theorem dX10_init_30 : decode cX10_init 30 = .ok (.aload_n 0, 1) := by decide +kernel
theorem dX10_init_31 : decode cX10_init 31 = .ok (.bipush 40, 2) := by decide +kernel
theorem dX10_init_33 : decode cX10_init 33 = .ok (.newarray .int, 2) := by decide +kernel
theorem dX10_init_35 : decode cX10_init 35 = .ok (.putfield 25, 3) := by decide +kernel
theorem dX10_init_38 : decode cX10_init 38 = .ok (.aload_n 0, 1) := by decide +kernel
theorem dX10_init_39 : decode cX10_init 39 = .ok (.iconst 0, 1) := by decide +kernel
theorem dX10_init_40 : decode cX10_init 40 = .ok (.putfield 28, 3) := by decide +kernel
theorem dX10_init_43 : decode cX10_init 43 = .ok (.aload_n 0, 1) := by decide +kernel
theorem dX10_init_44 : decode cX10_init 44 = .ok (.sipush 3200, 3) := by decide +kernel
theorem dX10_init_47 : decode cX10_init 47 = .ok (.newarray .int, 2) := by decide +kernel
theorem dX10_init_49 : decode cX10_init 49 = .ok (.putfield 31, 3) := by decide +kernel
theorem dX10_init_52 : decode cX10_init 52 = .ok (.aload_n 0, 1) := by decide +kernel
theorem dX10_init_53 : decode cX10_init 53 = .ok (.sipush 16000, 3) := by decide +kernel
theorem dX10_init_56 : decode cX10_init 56 = .ok (.newarray .int, 2) := by decide +kernel
theorem dX10_init_58 : decode cX10_init 58 = .ok (.putfield 34, 3) := by decide +kernel
theorem dX10_init_61 : decode cX10_init 61 = .ok (.aload_n 0, 1) := by decide +kernel
theorem dX10_init_62 : decode cX10_init 62 = .ok (.sipush 160, 3) := by decide +kernel
theorem dX10_init_65 : decode cX10_init 65 = .ok (.newarray .int, 2) := by decide +kernel
theorem dX10_init_67 : decode cX10_init 67 = .ok (.putfield 37, 3) := by decide +kernel
theorem dX10_init_70 : decode cX10_init 70 = .ok (.aload_n 0, 1) := by decide +kernel
theorem dX10_init_71 : decode cX10_init 71 = .ok (.sipush 800, 3) := by decide +kernel
theorem dX10_init_74 : decode cX10_init 74 = .ok (.newarray .int, 2) := by decide +kernel
theorem dX10_init_76 : decode cX10_init 76 = .ok (.putfield 40, 3) := by decide +kernel
theorem dX10_init_79 : decode cX10_init 79 = .ok (.aload_n 0, 1) := by decide +kernel
theorem dX10_init_80 : decode cX10_init 80 = .ok (.sipush 800, 3) := by decide +kernel
theorem dX10_init_83 : decode cX10_init 83 = .ok (.newarray .int, 2) := by decide +kernel
theorem dX10_init_85 : decode cX10_init 85 = .ok (.putfield 43, 3) := by decide +kernel
theorem dX10_init_88 : decode cX10_init 88 = .ok (.aload_n 0, 1) := by decide +kernel
theorem dX10_init_89 : decode cX10_init 89 = .ok (.lconst 1, 1) := by decide +kernel
theorem dX10_init_90 : decode cX10_init 90 = .ok (.putfield 46, 3) := by decide +kernel
theorem dX10_init_93 : decode cX10_init 93 = .ok (.aload_n 0, 1) := by decide +kernel
theorem dX10_init_94 : decode cX10_init 94 = .ok (.getfield 25, 3) := by decide +kernel
theorem dX10_init_97 : decode cX10_init 97 = .ok (.iconst (-1), 1) := by decide +kernel
theorem dX10_init_98 : decode cX10_init 98 = .ok (.invokestatic 50, 3) := by decide +kernel
theorem dX10_init_101 : decode cX10_init 101 = .ok (.aload_n 0, 1) := by decide +kernel
theorem dX10_init_102 : decode cX10_init 102 = .ok (.getfield 31, 3) := by decide +kernel
theorem dX10_init_105 : decode cX10_init 105 = .ok (.iconst (-1), 1) := by decide +kernel
theorem dX10_init_106 : decode cX10_init 106 = .ok (.invokestatic 50, 3) := by decide +kernel
theorem dX10_init_109 : decode cX10_init 109 = .ok (.return_, 1) := by decide +kernel
theorem dX1_init_0 : decode cX1_init 0 = .ok (.aload_n 0, 1) := by decide +kernel
theorem dX1_init_1 : decode cX1_init 1 = .ok (.invokespecial 3, 3) := by decide +kernel
theorem dX1_init_4 : decode cX1_init 4 = .ok (.aload_n 0, 1) := by decide +kernel
theorem dX1_init_5 : decode cX1_init 5 = .ok (.sipush 800, 3) := by decide +kernel
theorem dX1_init_8 : decode cX1_init 8 = .ok (.newarray .long, 2) := by decide +kernel
theorem dX1_init_10 : decode cX1_init 10 = .ok (.putfield 9, 3) := by decide +kernel
theorem dX1_init_13 : decode cX1_init 13 = .ok (.aload_n 0, 1) := by decide +kernel
theorem dX1_init_14 : decode cX1_init 14 = .ok (.sipush 800, 3) := by decide +kernel
theorem dX1_init_17 : decode cX1_init 17 = .ok (.newarray .int, 2) := by decide +kernel
theorem dX1_init_19 : decode cX1_init 19 = .ok (.putfield 15, 3) := by decide +kernel
theorem dX1_init_22 : decode cX1_init 22 = .ok (.aload_n 0, 1) := by decide +kernel
theorem dX1_init_23 : decode cX1_init 23 = .ok (.lconst 0, 1) := by decide +kernel
theorem dX1_init_24 : decode cX1_init 24 = .ok (.putfield 19, 3) := by decide +kernel
theorem dX1_init_27 : decode cX1_init 27 = .ok (.aload_n 0, 1) := by decide +kernel
theorem dX1_init_28 : decode cX1_init 28 = .ok (.lconst 0, 1) := by decide +kernel
theorem dX1_init_29 : decode cX1_init 29 = .ok (.putfield 23, 3) := by decide +kernel
theorem dX1_init_32 : decode cX1_init 32 = .ok (.aload_n 0, 1) := by decide +kernel
theorem dX1_init_33 : decode cX1_init 33 = .ok (.aload_n 1, 1) := by decide +kernel
theorem dX1_init_34 : decode cX1_init 34 = .ok (.putfield 26, 3) := by decide +kernel
theorem dX1_init_37 : decode cX1_init 37 = .ok (.return_, 1) := by decide +kernel
theorem dX2_init_0 : decode cX2_init 0 = .ok (.aload_n 0, 1) := by decide +kernel
theorem dX2_init_1 : decode cX2_init 1 = .ok (.invokespecial 3, 3) := by decide +kernel
theorem dX2_init_4 : decode cX2_init 4 = .ok (.aload_n 0, 1) := by decide +kernel
theorem dX2_init_5 : decode cX2_init 5 = .ok (.bipush 20, 2) := by decide +kernel
theorem dX2_init_7 : decode cX2_init 7 = .ok (.newarray .long, 2) := by decide +kernel
theorem dX2_init_9 : decode cX2_init 9 = .ok (.putfield 9, 3) := by decide +kernel
theorem dX2_init_12 : decode cX2_init 12 = .ok (.aload_n 0, 1) := by decide +kernel
theorem dX2_init_13 : decode cX2_init 13 = .ok (.bipush 20, 2) := by decide +kernel
theorem dX2_init_15 : decode cX2_init 15 = .ok (.newarray .long, 2) := by decide +kernel
theorem dX2_init_17 : decode cX2_init 17 = .ok (.putfield 15, 3) := by decide +kernel
theorem dX2_init_20 : decode cX2_init 20 = .ok (.aload_n 0, 1) := by decide +kernel
theorem dX2_init_21 : decode cX2_init 21 = .ok (.bipush 20, 2) := by decide +kernel
theorem dX2_init_23 : decode cX2_init 23 = .ok (.newarray .long, 2) := by decide +kernel
theorem dX2_init_25 : decode cX2_init 25 = .ok (.putfield 18, 3) := by decide +kernel
theorem dX2_init_28 : decode cX2_init 28 = .ok (.aload_n 0, 1) := by decide +kernel
theorem dX2_init_29 : decode cX2_init 29 = .ok (.bipush 20, 2) := by decide +kernel
theorem dX2_init_31 : decode cX2_init 31 = .ok (.newarray .long, 2) := by decide +kernel
theorem dX2_init_33 : decode cX2_init 33 = .ok (.putfield 21, 3) := by decide +kernel
theorem dX2_init_36 : decode cX2_init 36 = .ok (.aload_n 0, 1) := by decide +kernel
theorem dX2_init_37 : decode cX2_init 37 = .ok (.iconst 0, 1) := by decide +kernel
theorem dX2_init_38 : decode cX2_init 38 = .ok (.putfield 24, 3) := by decide +kernel
theorem dX2_init_41 : decode cX2_init 41 = .ok (.aload_n 0, 1) := by decide +kernel
theorem dX2_init_42 : decode cX2_init 42 = .ok (.iconst 0, 1) := by decide +kernel
theorem dX2_init_43 : decode cX2_init 43 = .ok (.putfield 28, 3) := by decide +kernel
theorem dX2_init_46 : decode cX2_init 46 = .ok (.aload_n 0, 1) := by decide +kernel
theorem dX2_init_47 : decode cX2_init 47 = .ok (.iconst 0, 1) := by decide +kernel
theorem dX2_init_48 : decode cX2_init 48 = .ok (.putfield 31, 3) := by decide +kernel
theorem dX2_init_51 : decode cX2_init 51 = .ok (.aload_n 0, 1) := by decide +kernel
theorem dX2_init_52 : decode cX2_init 52 = .ok (.aload_n 1, 1) := by decide +kernel
theorem dX2_init_53 : decode cX2_init 53 = .ok (.putfield 34, 3) := by decide +kernel
theorem dX2_init_56 : decode cX2_init 56 = .ok (.return_, 1) := by decide +kernel
theorem dX3_init_0 : decode cX3_init 0 = .ok (.aload_n 0, 1) := by decide +kernel
theorem dX3_init_1 : decode cX3_init 1 = .ok (.invokespecial 3, 3) := by decide +kernel
theorem dX3_init_4 : decode cX3_init 4 = .ok (.aload_n 0, 1) := by decide +kernel
theorem dX3_init_5 : decode cX3_init 5 = .ok (.iconst 0, 1) := by decide +kernel
theorem dX3_init_6 : decode cX3_init 6 = .ok (.putfield 9, 3) := by decide +kernel
theorem dX3_init_9 : decode cX3_init 9 = .ok (.aload_n 0, 1) := by decide +kernel
theorem dX3_init_10 : decode cX3_init 10 = .ok (.iconst 4, 1) := by decide +kernel
theorem dX3_init_11 : decode cX3_init 11 = .ok (.newarray .int, 2) := by decide +kernel
theorem dX3_init_13 : decode cX3_init 13 = .ok (.putfield 15, 3) := by decide +kernel
theorem dX3_init_16 : decode cX3_init 16 = .ok (.aload_n 0, 1) := by decide +kernel
theorem dX3_init_17 : decode cX3_init 17 = .ok (.iconst 4, 1) := by decide +kernel
theorem dX3_init_18 : decode cX3_init 18 = .ok (.newarray .int, 2) := by decide +kernel
theorem dX3_init_20 : decode cX3_init 20 = .ok (.putfield 19, 3) := by decide +kernel
theorem dX3_init_23 : decode cX3_init 23 = .ok (.aload_n 0, 1) := by decide +kernel
theorem dX3_init_24 : decode cX3_init 24 = .ok (.iconst 3, 1) := by decide +kernel
theorem dX3_init_25 : decode cX3_init 25 = .ok (.newarray .int, 2) := by decide +kernel
theorem dX3_init_27 : decode cX3_init 27 = .ok (.putfield 22, 3) := by decide +kernel
theorem dX3_init_30 : decode cX3_init 30 = .ok (.aload_n 0, 1) := by decide +kernel
theorem dX3_init_31 : decode cX3_init 31 = .ok (.bipush 21, 2) := by decide +kernel
theorem dX3_init_33 : decode cX3_init 33 = .ok (.newarray .int, 2) := by decide +kernel
theorem dX3_init_35 : decode cX3_init 35 = .ok (.putfield 25, 3) := by decide +kernel
theorem dX3_init_38 : decode cX3_init 38 = .ok (.aload_n 0, 1) := by decide +kernel
theorem dX3_init_39 : decode cX3_init 39 = .ok (.bipush 21, 2) := by decide +kernel
theorem dX3_init_41 : decode cX3_init 41 = .ok (.newarray .int, 2) := by decide +kernel
theorem dX3_init_43 : decode cX3_init 43 = .ok (.putfield 28, 3) := by decide +kernel
theorem dX3_init_46 : decode cX3_init 46 = .ok (.aload_n 0, 1) := by decide +kernel
theorem dX3_init_47 : decode cX3_init 47 = .ok (.bipush 40, 2) := by decide +kernel
theorem dX3_init_49 : decode cX3_init 49 = .ok (.newarray .int, 2) := by decide +kernel
theorem dX3_init_51 : decode cX3_init 51 = .ok (.putfield 31, 3) := by decide +kernel
theorem dX3_init_54 : decode cX3_init 54 = .ok (.aload_n 0, 1) := by decide +kernel
theorem dX3_init_55 : decode cX3_init 55 = .ok (.bipush 41, 2) := by decide +kernel
theorem dX3_init_57 : decode cX3_init 57 = .ok (.newarray .int, 2) := by decide +kernel
theorem dX3_init_59 : decode cX3_init 59 = .ok (.putfield 34, 3) := by decide +kernel
theorem dX3_init_62 : decode cX3_init 62 = .ok (.aload_n 0, 1) := by decide +kernel
theorem dX3_init_63 : decode cX3_init 63 = .ok (.iconst 0, 1) := by decide +kernel
theorem dX3_init_64 : decode cX3_init 64 = .ok (.putfield 37, 3) := by decide +kernel
theorem dX3_init_67 : decode cX3_init 67 = .ok (.aload_n 0, 1) := by decide +kernel
theorem dX3_init_68 : decode cX3_init 68 = .ok (.bipush 40, 2) := by decide +kernel
theorem dX3_init_70 : decode cX3_init 70 = .ok (.newarray .int, 2) := by decide +kernel
theorem dX3_init_72 : decode cX3_init 72 = .ok (.putfield 40, 3) := by decide +kernel
theorem dX3_init_75 : decode cX3_init 75 = .ok (.aload_n 0, 1) := by decide +kernel
theorem dX3_init_76 : decode cX3_init 76 = .ok (.bipush 40, 2) := by decide +kernel
theorem dX3_init_78 : decode cX3_init 78 = .ok (.newarray .int, 2) := by decide +kernel
theorem dX3_init_80 : decode cX3_init 80 = .ok (.putfield 43, 3) := by decide +kernel
theorem dX3_init_83 : decode cX3_init 83 = .ok (.aload_n 0, 1) := by decide +kernel
theorem dX3_init_84 : decode cX3_init 84 = .ok (.bipush 40, 2) := by decide +kernel
theorem dX3_init_86 : decode cX3_init 86 = .ok (.newarray .int, 2) := by decide +kernel
theorem dX3_init_88 : decode cX3_init 88 = .ok (.putfield 46, 3) := by decide +kernel
theorem dX3_init_91 : decode cX3_init 91 = .ok (.aload_n 0, 1) := by decide +kernel
theorem dX3_init_92 : decode cX3_init 92 = .ok (.iconst 0, 1) := by decide +kernel
theorem dX3_init_93 : decode cX3_init 93 = .ok (.putfield 49, 3) := by decide +kernel
theorem dX3_init_96 : decode cX3_init 96 = .ok (.aload_n 0, 1) := by decide +kernel
theorem dX3_init_97 : decode cX3_init 97 = .ok (.bipush 40, 2) := by decide +kernel
theorem dX3_init_99 : decode cX3_init 99 = .ok (.newarray .int, 2) := by decide +kernel
theorem dX3_init_101 : decode cX3_init 101 = .ok (.putfield 52, 3) := by decide +kernel
theorem dX3_init_104 : decode cX3_init 104 = .ok (.aload_n 0, 1) := by decide +kernel
theorem dX3_init_105 : decode cX3_init 105 = .ok (.bipush 40, 2) := by decide +kernel
theorem dX3_init_107 : decode cX3_init 107 = .ok (.newarray .int, 2) := by decide +kernel
theorem dX3_init_109 : decode cX3_init 109 = .ok (.putfield 55, 3) := by decide +kernel
theorem dX3_init_112 : decode cX3_init 112 = .ok (.aload_n 0, 1) := by decide +kernel
theorem dX3_init_113 : decode cX3_init 113 = .ok (.bipush 40, 2) := by decide +kernel
theorem dX3_init_115 : decode cX3_init 115 = .ok (.newarray .int, 2) := by decide +kernel
theorem dX3_init_117 : decode cX3_init 117 = .ok (.putfield 58, 3) := by decide +kernel
theorem dX3_init_120 : decode cX3_init 120 = .ok (.aload_n 0, 1) := by decide +kernel
theorem dX3_init_121 : decode cX3_init 121 = .ok (.sipush 700, 3) := by decide +kernel
theorem dX3_init_124 : decode cX3_init 124 = .ok (.newarray .int, 2) := by decide +kernel
theorem dX3_init_126 : decode cX3_init 126 = .ok (.putfield 61, 3) := by decide +kernel
theorem dX3_init_129 : decode cX3_init 129 = .ok (.aload_n 0, 1) := by decide +kernel
theorem dX3_init_130 : decode cX3_init 130 = .ok (.iconst 0, 1) := by decide +kernel
theorem dX3_init_131 : decode cX3_init 131 = .ok (.putfield 64, 3) := by decide +kernel
theorem dX3_init_134 : decode cX3_init 134 = .ok (.aload_n 0, 1) := by decide +kernel
theorem dX3_init_135 : decode cX3_init 135 = .ok (.bipush 64, 2) := by decide +kernel
theorem dX3_init_137 : decode cX3_init 137 = .ok (.newarray .boolean, 2) := by decide +kernel
theorem dX3_init_139 : decode cX3_init 139 = .ok (.putfield 67, 3) := by decide +kernel
theorem dX3_init_142 : decode cX3_init 142 = .ok (.aload_n 0, 1) := by decide +kernel
theorem dX3_init_143 : decode cX3_init 143 = .ok (.getfield 31, 3) := by decide +kernel
theorem dX3_init_146 : decode cX3_init 146 = .ok (.iconst (-1), 1) := by decide +kernel
theorem dX3_init_147 : decode cX3_init 147 = .ok (.invokestatic 71, 3) := by decide +kernel
theorem dX3_init_150 : decode cX3_init 150 = .ok (.aload_n 0, 1) := by decide +kernel
theorem dX3_init_151 : decode cX3_init 151 = .ok (.getfield 34, 3) := by decide +kernel
theorem dX3_init_154 : decode cX3_init 154 = .ok (.iconst 1, 1) := by decide +kernel
theorem dX3_init_155 : decode cX3_init 155 = .ok (.invokestatic 71, 3) := by decide +kernel
theorem dX3_init_158 : decode cX3_init 158 = .ok (.return_, 1) := by decide +kernel
theorem dX4_init_0 : decode cX4_init 0 = .ok (.aload_n 0, 1) := by decide +kernel
theorem dX4_init_1 : decode cX4_init 1 = .ok (.invokespecial 3, 3) := by decide +kernel
theorem dX4_init_4 : decode cX4_init 4 = .ok (.aload_n 0, 1) := by decide +kernel
theorem dX4_init_5 : decode cX4_init 5 = .ok (.iconst 0, 1) := by decide +kernel
theorem dX4_init_6 : decode cX4_init 6 = .ok (.newarray .byte, 2) := by decide +kernel
theorem dX4_init_8 : decode cX4_init 8 = .ok (.putfield 9, 3) := by decide +kernel
theorem dX4_init_11 : decode cX4_init 11 = .ok (.aload_n 0, 1) := by decide +kernel
theorem dX4_init_12 : decode cX4_init 12 = .ok (.new 15, 3) := by decide +kernel
theorem dX4_init_15 : decode cX4_init 15 = .ok (.dup, 1) := by decide +kernel
theorem dX4_init_16 : decode cX4_init 16 = .ok (.invokespecial 17, 3) := by decide +kernel
theorem dX4_init_19 : decode cX4_init 19 = .ok (.putfield 18, 3) := by decide +kernel
theorem dX4_init_22 : decode cX4_init 22 = .ok (.aload_n 0, 1) := by decide +kernel
theorem dX4_init_23 : decode cX4_init 23 = .ok (.sipush 701, 3) := by decide +kernel
theorem dX4_init_26 : decode cX4_init 26 = .ok (.newarray .int, 2) := by decide +kernel
theorem dX4_init_28 : decode cX4_init 28 = .ok (.putfield 22, 3) := by decide +kernel
theorem dX4_init_31 : decode cX4_init 31 = .ok (.aload_n 0, 1) := by decide +kernel
theorem dX4_init_32 : decode cX4_init 32 = .ok (.sipush 701, 3) := by decide +kernel
theorem dX4_init_35 : decode cX4_init 35 = .ok (.newarray .int, 2) := by decide +kernel
theorem dX4_init_37 : decode cX4_init 37 = .ok (.putfield 26, 3) := by decide +kernel
theorem dX4_init_40 : decode cX4_init 40 = .ok (.aload_n 0, 1) := by decide +kernel
theorem dX4_init_41 : decode cX4_init 41 = .ok (.sipush 701, 3) := by decide +kernel
theorem dX4_init_44 : decode cX4_init 44 = .ok (.newarray .int, 2) := by decide +kernel
theorem dX4_init_46 : decode cX4_init 46 = .ok (.putfield 29, 3) := by decide +kernel
theorem dX4_init_49 : decode cX4_init 49 = .ok (.aload_n 0, 1) := by decide +kernel
theorem dX4_init_50 : decode cX4_init 50 = .ok (.iconst 0, 1) := by decide +kernel
theorem dX4_init_51 : decode cX4_init 51 = .ok (.putfield 32, 3) := by decide +kernel
theorem dX4_init_54 : decode cX4_init 54 = .ok (.aload_n 0, 1) := by decide +kernel
theorem dX4_init_55 : decode cX4_init 55 = .ok (.iconst 0, 1) := by decide +kernel
theorem dX4_init_56 : decode cX4_init 56 = .ok (.putfield 36, 3) := by decide +kernel
theorem dX4_init_59 : decode cX4_init 59 = .ok (.aload_n 0, 1) := by decide +kernel
theorem dX4_init_60 : decode cX4_init 60 = .ok (.iconst 0, 1) := by decide +kernel
theorem dX4_init_61 : decode cX4_init 61 = .ok (.putfield 39, 3) := by decide +kernel
theorem dX4_init_64 : decode cX4_init 64 = .ok (.aload_n 0, 1) := by decide +kernel
theorem dX4_init_65 : decode cX4_init 65 = .ok (.bipush 64, 2) := by decide +kernel
theorem dX4_init_67 : decode cX4_init 67 = .ok (.newarray .int, 2) := by decide +kernel
theorem dX4_init_69 : decode cX4_init 69 = .ok (.putfield 42, 3) := by decide +kernel
theorem dX4_init_72 : decode cX4_init 72 = .ok (.aload_n 0, 1) := by decide +kernel
theorem dX4_init_73 : decode cX4_init 73 = .ok (.iconst 0, 1) := by decide +kernel
theorem dX4_init_74 : decode cX4_init 74 = .ok (.putfield 45, 3) := by decide +kernel
theorem dX4_init_77 : decode cX4_init 77 = .ok (.aload_n 0, 1) := by decide +kernel
theorem dX4_init_78 : decode cX4_init 78 = .ok (.iconst 0, 1) := by decide +kernel
theorem dX4_init_79 : decode cX4_init 79 = .ok (.putfield 48, 3) := by decide +kernel
theorem dX4_init_82 : decode cX4_init 82 = .ok (.aload_n 0, 1) := by decide +kernel
theorem dX4_init_83 : decode cX4_init 83 = .ok (.iconst 0, 1) := by decide +kernel
theorem dX4_init_84 : decode cX4_init 84 = .ok (.putfield 51, 3) := by decide +kernel
theorem dX4_init_87 : decode cX4_init 87 = .ok (.return_, 1) := by decide +kernel
theorem dX5_init_0 : decode cX5_init 0 = .ok (.aload_n 0, 1) := by decide +kernel
theorem dX5_init_1 : decode cX5_init 1 = .ok (.invokespecial 3, 3) := by decide +kernel
theorem dX5_init_4 : decode cX5_init 4 = .ok (.aload_n 0, 1) := by decide +kernel
theorem dX5_init_5 : decode cX5_init 5 = .ok (.bipush 20, 2) := by decide +kernel
theorem dX5_init_7 : decode cX5_init 7 = .ok (.newarray .int, 2) := by decide +kernel
theorem dX5_init_9 : decode cX5_init 9 = .ok (.putfield 9, 3) := by decide +kernel
theorem dX5_init_12 : decode cX5_init 12 = .ok (.aload_n 0, 1) := by decide +kernel
theorem dX5_init_13 : decode cX5_init 13 = .ok (.bipush 20, 2) := by decide +kernel
theorem dX5_init_15 : decode cX5_init 15 = .ok (.newarray .int, 2) := by decide +kernel
theorem dX5_init_17 : decode cX5_init 17 = .ok (.putfield 15, 3) := by decide +kernel
theorem dX5_init_20 : decode cX5_init 20 = .ok (.aload_n 0, 1) := by decide +kernel
theorem dX5_init_21 : decode cX5_init 21 = .ok (.iconst 0, 1) := by decide +kernel
theorem dX5_init_22 : decode cX5_init 22 = .ok (.putfield 18, 3) := by decide +kernel
theorem dX5_init_25 : decode cX5_init 25 = .ok (.return_, 1) := by decide +kernel
theorem dX6_init_0 : decode cX6_init 0 = .ok (.aload_n 0, 1) := by decide +kernel
theorem dX6_init_1 : decode cX6_init 1 = .ok (.invokespecial 1, 3) := by decide +kernel
theorem dX6_init_4 : decode cX6_init 4 = .ok (.aload_n 0, 1) := by decide +kernel
theorem dX6_init_5 : decode cX6_init 5 = .ok (.lconst 0, 1) := by decide +kernel
theorem dX6_init_6 : decode cX6_init 6 = .ok (.putfield 7, 3) := by decide +kernel
theorem dX6_init_9 : decode cX6_init 9 = .ok (.aload_n 0, 1) := by decide +kernel
theorem dX6_init_10 : decode cX6_init 10 = .ok (.lconst 0, 1) := by decide +kernel
theorem dX6_init_11 : decode cX6_init 11 = .ok (.putfield 13, 3) := by decide +kernel
theorem dX6_init_14 : decode cX6_init 14 = .ok (.return_, 1) := by decide +kernel
theorem dX7_init_0 : decode cX7_init 0 = .ok (.aload_n 0, 1) := by decide +kernel
theorem dX7_init_1 : decode cX7_init 1 = .ok (.invokespecial 3, 3) := by decide +kernel
theorem dX7_init_4 : decode cX7_init 4 = .ok (.aload_n 0, 1) := by decide +kernel
theorem dX7_init_5 : decode cX7_init 5 = .ok (.new 9, 3) := by decide +kernel
theorem dX7_init_8 : decode cX7_init 8 = .ok (.dup, 1) := by decide +kernel
theorem dX7_init_9 : decode cX7_init 9 = .ok (.invokespecial 11, 3) := by decide +kernel
theorem dX7_init_12 : decode cX7_init 12 = .ok (.putfield 12, 3) := by decide +kernel
theorem dX7_init_15 : decode cX7_init 15 = .ok (.aload_n 0, 1) := by decide +kernel
theorem dX7_init_16 : decode cX7_init 16 = .ok (.bipush 20, 2) := by decide +kernel
theorem dX7_init_18 : decode cX7_init 18 = .ok (.newarray .int, 2) := by decide +kernel
theorem dX7_init_20 : decode cX7_init 20 = .ok (.putfield 18, 3) := by decide +kernel
theorem dX7_init_23 : decode cX7_init 23 = .ok (.aload_n 0, 1) := by decide +kernel
theorem dX7_init_24 : decode cX7_init 24 = .ok (.aload_n 1, 1) := by decide +kernel
theorem dX7_init_25 : decode cX7_init 25 = .ok (.putfield 22, 3) := by decide +kernel
theorem dX7_init_28 : decode cX7_init 28 = .ok (.return_, 1) := by decide +kernel
theorem dX8_init_0 : decode cX8_init 0 = .ok (.aload_n 0, 1) := by decide +kernel
theorem dX8_init_1 : decode cX8_init 1 = .ok (.invokespecial 3, 3) := by decide +kernel
theorem dX8_init_4 : decode cX8_init 4 = .ok (.aload_n 0, 1) := by decide +kernel
theorem dX8_init_5 : decode cX8_init 5 = .ok (.iconst 0, 1) := by decide +kernel
theorem dX8_init_6 : decode cX8_init 6 = .ok (.putfield 9, 3) := by decide +kernel
theorem dX8_init_9 : decode cX8_init 9 = .ok (.aload_n 0, 1) := by decide +kernel
theorem dX8_init_10 : decode cX8_init 10 = .ok (.iconst 0, 1) := by decide +kernel
theorem dX8_init_11 : decode cX8_init 11 = .ok (.putfield 15, 3) := by decide +kernel
theorem dX8_init_14 : decode cX8_init 14 = .ok (.aload_n 0, 1) := by decide +kernel
theorem dX8_init_15 : decode cX8_init 15 = .ok (.iconst (-1), 1) := by decide +kernel
theorem dX8_init_16 : decode cX8_init 16 = .ok (.putfield 18, 3) := by decide +kernel
theorem dX8_init_19 : decode cX8_init 19 = .ok (.aload_n 0, 1) := by decide +kernel
theorem dX8_init_20 : decode cX8_init 20 = .ok (.iconst 0, 1) := by decide +kernel
theorem dX8_init_21 : decode cX8_init 21 = .ok (.putfield 21, 3) := by decide +kernel
theorem dX8_init_24 : decode cX8_init 24 = .ok (.aload_n 0, 1) := by decide +kernel
theorem dX8_init_25 : decode cX8_init 25 = .ok (.lconst 0, 1) := by decide +kernel
theorem dX8_init_26 : decode cX8_init 26 = .ok (.putfield 24, 3) := by decide +kernel
theorem dX8_init_29 : decode cX8_init 29 = .ok (.aload_n 0, 1) := by decide +kernel
theorem dX8_init_30 : decode cX8_init 30 = .ok (.lconst 0, 1) := by decide +kernel
theorem dX8_init_31 : decode cX8_init 31 = .ok (.putfield 28, 3) := by decide +kernel
theorem dX8_init_34 : decode cX8_init 34 = .ok (.aload_n 0, 1) := by decide +kernel
theorem dX8_init_35 : decode cX8_init 35 = .ok (.lconst 0, 1) := by decide +kernel
theorem dX8_init_36 : decode cX8_init 36 = .ok (.putfield 31, 3) := by decide +kernel
theorem dX8_init_39 : decode cX8_init 39 = .ok (.aload_n 0, 1) := by decide +kernel
theorem dX8_init_40 : decode cX8_init 40 = .ok (.aload_n 1, 1) := by decide +kernel
theorem dX8_init_41 : decode cX8_init 41 = .ok (.putfield 34, 3) := by decide +kernel
theorem dX8_init_44 : decode cX8_init 44 = .ok (.return_, 1) := by decide +kernel
theorem dX9_init_0 : decode cX9_init 0 = .ok (.aload_n 0, 1) := by decide +kernel
theorem dX9_init_1 : decode cX9_init 1 = .ok (.invokespecial 3, 3) := by decide +kernel
theorem dX9_init_4 : decode cX9_init 4 = .ok (.aload_n 0, 1) := by decide +kernel
theorem dX9_init_5 : decode cX9_init 5 = .ok (.new 9, 3) := by decide +kernel
theorem dX9_init_8 : decode cX9_init 8 = .ok (.dup, 1) := by decide +kernel
theorem dX9_init_9 : decode cX9_init 9 = .ok (.invokespecial 11, 3) := by decide +kernel
theorem dX9_init_12 : decode cX9_init 12 = .ok (.putfield 12, 3) := by decide +kernel
theorem dX9_init_15 : decode cX9_init 15 = .ok (.aload_n 0, 1) := by decide +kernel
theorem dX9_init_16 : decode cX9_init 16 = .ok (.new 9, 3) := by decide +kernel
theorem dX9_init_19 : decode cX9_init 19 = .ok (.dup, 1) := by decide +kernel
theorem dX9_init_20 : decode cX9_init 20 = .ok (.invokespecial 11, 3) := by decide +kernel
theorem dX9_init_23 : decode cX9_init 23 = .ok (.putfield 18, 3) := by decide +kernel
theorem dX9_init_26 : decode cX9_init 26 = .ok (.aload_n 0, 1) := by decide +kernel
theorem dX9_init_27 : decode cX9_init 27 = .ok (.bipush 6, 2) := by decide +kernel
theorem dX9_init_29 : decode cX9_init 29 = .ok (.newarray .int, 2) := by decide +kernel
theorem dX9_init_31 : decode cX9_init 31 = .ok (.putfield 21, 3) := by decide +kernel
theorem dX9_init_34 : decode cX9_init 34 = .ok (.aload_n 0, 1) := by decide +kernel
theorem dX9_init_35 : decode cX9_init 35 = .ok (.aload_n 1, 1) := by decide +kernel
theorem dX9_init_36 : decode cX9_init 36 = .ok (.putfield 25, 3) := by decide +kernel
theorem dX9_init_39 : decode cX9_init 39 = .ok (.return_, 1) := by decide +kernel
set_option maxHeartbeats 4000000 in
set_option maxRecDepth 100000 in
theorem c_World_init (l : Launch) (D : va_G) (cI cJ cZ cB : ClassId) (cO : ClassId) (h0 : Nat) :
    CV l D [(cI, .int), (cJ, .long), (cZ, .boolean), (cB, .byte), (cO, .object "LuckLinks$World")] yX10_init cX10_init 1 ({ frames := 1, cells := 8, slots := 21104, locals := 23 } : Room) [.ref h0] [(h0, .inr (10, [.int (0 : Int32), .null, .int (0 : Int32), .null, .null, .int (0 : Int32), .null, .null, .null, .null, .null, .long (0 : Int64)]))] (fun (u : (Nat → Nat)) => match u with | u => (True)) (fun (u : (Nat → Nat)) => match u with | u => [(h0, .inr (10, [.int (0 : Int32), .ref (u 1), .int (0 : Int32), .ref (u 2), .ref (u 3), .int (0 : Int32), .ref (u 4), .ref (u 5), .ref (u 6), .ref (u 7), .ref (u 8), .long (1 : Int64)])), ((u 1), .inl (cI, 80, .inl (fun _ => (0 : Int32)))), ((u 2), .inl (cI, 24, .inl (fun _ => (0 : Int32)))), ((u 3), .inl (cI, 40, .inl (fun _ => (-1 : Int32)))), ((u 4), .inl (cI, 3200, .inl (fun _ => (-1 : Int32)))), ((u 5), .inl (cI, 16000, .inl (fun _ => (0 : Int32)))), ((u 6), .inl (cI, 160, .inl (fun _ => (0 : Int32)))), ((u 7), .inl (cI, 800, .inl (fun _ => (0 : Int32)))), ((u 8), .inl (cI, 800, .inl (fun _ => (0 : Int32))))]) := by
  intro sz
  refine body_of (y := yX10_init) (cc := cX10_init) (maxL := 1) (ret := none) (rm := ({ frames := 1, cells := 8, slots := 21104, locals := 23 } : Room)) (wc := [(h0, .inr (10, [.int (0 : Int32), .null, .int (0 : Int32), .null, .null, .int (0 : Int32), .null, .null, .null, .null, .null, .long (0 : Int64)]))]) (tys := [(cI, .int), (cJ, .long), (cZ, .boolean), (cB, .byte), (cO, .object "LuckLinks$World")]) (D := D) (sz := sz) (own := RX10) (av := [.ref h0]) (Qc := fun A => va_Qv (fun (u : (Nat → Nat)) => match u with | u => (True)) (fun u t => Aft D A ((fun (u : (Nat → Nat)) => match u with | u => [(h0, .inr (10, [.int (0 : Int32), .ref (u 1), .int (0 : Int32), .ref (u 2), .ref (u 3), .int (0 : Int32), .ref (u 4), .ref (u 5), .ref (u 6), .ref (u 7), .ref (u 8), .long (1 : Int64)])), ((u 1), .inl (cI, 80, .inl (fun _ => (0 : Int32)))), ((u 2), .inl (cI, 24, .inl (fun _ => (0 : Int32)))), ((u 3), .inl (cI, 40, .inl (fun _ => (-1 : Int32)))), ((u 4), .inl (cI, 3200, .inl (fun _ => (-1 : Int32)))), ((u 5), .inl (cI, 16000, .inl (fun _ => (0 : Int32)))), ((u 6), .inl (cI, 160, .inl (fun _ => (0 : Int32)))), ((u 7), .inl (cI, 800, .inl (fun _ => (0 : Int32)))), ((u 8), .inl (cI, 800, .inl (fun _ => (0 : Int32))))]) u) t) A) (by decide) rfl (Nat.le_of_ble_eq_true rfl) (fun p e s m below meth c A ls C hr hlk hin X hl => ?_)
  have hx := C.1
  have hb := C.2.1
  have hown := C.2.2.2.1
  have hts := C.2.2.2.2.1
  have hl : lv_has ls 1 [(0, .ref h0)] := hl
  show W p l e _ s m _ below meth c s.heap [] 0 0 (MQ below (va_Qv (fun (u : (Nat → Nat)) => match u with | u => (True)) (fun u t => Aft D A ((fun (u : (Nat → Nat)) => match u with | u => [(h0, .inr (10, [.int (0 : Int32), .ref (u 1), .int (0 : Int32), .ref (u 2), .ref (u 3), .int (0 : Int32), .ref (u 4), .ref (u 5), .ref (u 6), .ref (u 7), .ref (u 8), .long (1 : Int64)])), ((u 1), .inl (cI, 80, .inl (fun _ => (0 : Int32)))), ((u 2), .inl (cI, 24, .inl (fun _ => (0 : Int32)))), ((u 3), .inl (cI, 40, .inl (fun _ => (-1 : Int32)))), ((u 4), .inl (cI, 3200, .inl (fun _ => (-1 : Int32)))), ((u 5), .inl (cI, 16000, .inl (fun _ => (0 : Int32)))), ((u 6), .inl (cI, 160, .inl (fun _ => (0 : Int32)))), ((u 7), .inl (cI, 800, .inl (fun _ => (0 : Int32)))), ((u 8), .inl (cI, 800, .inl (fun _ => (0 : Int32))))]) u) t) A) ([.ref h0] : List Value).toArray s 8 21104 A) (F0 m 0 ls [])
  have X : Wd D A s [(h0, .inr (10, [.int (0 : Int32), .null, .int (0 : Int32), .null, .null, .int (0 : Int32), .null, .null, .null, .null, .null, .long (0 : Int64)]))] s.heap [] := X
  obtain ⟨H, locs, eH, eL⟩ : ∃ H locs, H = s.heap ∧ locs = ([] : List Loc) := ⟨_, _, rfl, rfl⟩
  rw [← eH, ← eL] at X ⊢
  clear eH eL
  refine lv_aload_n hx hb dX10_init_0 rfl (lv_at hl 0 rfl) ?_
  refine x_objInit (own := RX10) C hl.1 k_3_16 k_1_10 k_1_11 dX10_init_1 (Nat.le_of_ble_eq_true rfl) (Nat.le_of_ble_eq_true rfl) ?_
  refine lv_aload_n hx hb dX10_init_4 rfl (lv_at hl 0 rfl) ?_
  refine lv_iconst (v := (0 : Int32)) hx hb dX10_init_5 (by decide) ?_
  refine x_put (own := RX10) (T := TX10) C X 0 rfl rfl 0 (by decide) k_3_17 rfl rfl rfl (ty := .int) (v := .int (0 : Int32)) (by decide +kernel) rfl rfl (Nat.le_of_ble_eq_true rfl) dX10_init_6 (fun H locs X => ?_)
  have X : Wd D A s [(h0, .inr (10, [.int (0 : Int32), .null, .int (0 : Int32), .null, .null, .int (0 : Int32), .null, .null, .null, .null, .null, .long (0 : Int64)]))] H locs := X
  refine lv_aload_n hx hb dX10_init_9 rfl (lv_at hl 0 rfl) ?_
  refine lv_bipush (v := (80 : Int32)) hx hb dX10_init_10 (by decide) ?_
  refine x_newa (own := RX10) (atype := .int) (ty := .int) (N' := 80) (a0 := (80, .inl (fun _ => (0 : Int32)))) C X rfl k_2_7 0 rfl rfl (fun _ => rfl) (by decide) (by decide) (Nat.le_of_ble_eq_true rfl) (Nat.le_of_ble_eq_true rfl) (Nat.le_of_ble_eq_true rfl) dX10_init_12 (fun q_1 H X => ?_)
  have X : Wd D A s [(h0, .inr (10, [.int (0 : Int32), .null, .int (0 : Int32), .null, .null, .int (0 : Int32), .null, .null, .null, .null, .null, .long (0 : Int64)])), (q_1, .inl (cI, 80, .inl (fun _ => (0 : Int32))))] H locs := X
  refine W.widen (k := 1) (n := 80) (Nat.le_of_ble_eq_true rfl) (Nat.le_of_ble_eq_true rfl) ?_
  refine x_putF (own := RX10) (T := TX10) C X 0 rfl rfl 1 (by decide) k_3_18 rfl rfl rfl hin rfl (ty := (tyX10 1)) (v := .ref q_1) (by decide +kernel) rfl rfl (Nat.le_of_ble_eq_true rfl) dX10_init_14 (fun H locs X => ?_)
  have X : Wd D A s [(h0, .inr (10, [.int (0 : Int32), .ref q_1, .int (0 : Int32), .null, .null, .int (0 : Int32), .null, .null, .null, .null, .null, .long (0 : Int64)])), (q_1, .inl (cI, 80, .inl (fun _ => (0 : Int32))))] H locs := X
  refine lv_aload_n hx hb dX10_init_17 rfl (lv_at hl 0 rfl) ?_
  refine lv_iconst (v := (0 : Int32)) hx hb dX10_init_18 (by decide) ?_
  refine x_put (own := RX10) (T := TX10) C X 0 rfl rfl 2 (by decide) k_3_19 rfl rfl rfl (ty := .int) (v := .int (0 : Int32)) (by decide +kernel) rfl rfl (Nat.le_of_ble_eq_true rfl) dX10_init_19 (fun H locs X => ?_)
  have X : Wd D A s [(h0, .inr (10, [.int (0 : Int32), .ref q_1, .int (0 : Int32), .null, .null, .int (0 : Int32), .null, .null, .null, .null, .null, .long (0 : Int64)])), (q_1, .inl (cI, 80, .inl (fun _ => (0 : Int32))))] H locs := X
  refine lv_aload_n hx hb dX10_init_22 rfl (lv_at hl 0 rfl) ?_
  refine lv_bipush (v := (24 : Int32)) hx hb dX10_init_23 (by decide) ?_
  refine x_newa (own := RX10) (atype := .int) (ty := .int) (N' := 24) (a0 := (24, .inl (fun _ => (0 : Int32)))) C X rfl k_2_7 0 rfl rfl (fun _ => rfl) (by decide) (by decide) (Nat.le_of_ble_eq_true rfl) (Nat.le_of_ble_eq_true rfl) (Nat.le_of_ble_eq_true rfl) dX10_init_25 (fun q_2 H X => ?_)
  have X : Wd D A s [(h0, .inr (10, [.int (0 : Int32), .ref q_1, .int (0 : Int32), .null, .null, .int (0 : Int32), .null, .null, .null, .null, .null, .long (0 : Int64)])), (q_1, .inl (cI, 80, .inl (fun _ => (0 : Int32)))), (q_2, .inl (cI, 24, .inl (fun _ => (0 : Int32))))] H locs := X
  refine W.widen (k := 2) (n := 104) (Nat.le_of_ble_eq_true rfl) (Nat.le_of_ble_eq_true rfl) ?_
  refine x_putF (own := RX10) (T := TX10) C X 0 rfl rfl 3 (by decide) k_3_20 rfl rfl rfl hin rfl (ty := (tyX10 3)) (v := .ref q_2) (by decide +kernel) rfl rfl (Nat.le_of_ble_eq_true rfl) dX10_init_27 (fun H locs X => ?_)
  have X : Wd D A s [(h0, .inr (10, [.int (0 : Int32), .ref q_1, .int (0 : Int32), .ref q_2, .null, .int (0 : Int32), .null, .null, .null, .null, .null, .long (0 : Int64)])), (q_1, .inl (cI, 80, .inl (fun _ => (0 : Int32)))), (q_2, .inl (cI, 24, .inl (fun _ => (0 : Int32))))] H locs := X
  refine lv_aload_n hx hb dX10_init_30 rfl (lv_at hl 0 rfl) ?_
  refine lv_bipush (v := (40 : Int32)) hx hb dX10_init_31 (by decide) ?_
  refine x_newa (own := RX10) (atype := .int) (ty := .int) (N' := 40) (a0 := (40, .inl (fun _ => (0 : Int32)))) C X rfl k_2_7 0 rfl rfl (fun _ => rfl) (by decide) (by decide) (Nat.le_of_ble_eq_true rfl) (Nat.le_of_ble_eq_true rfl) (Nat.le_of_ble_eq_true rfl) dX10_init_33 (fun q_3 H X => ?_)
  have X : Wd D A s [(h0, .inr (10, [.int (0 : Int32), .ref q_1, .int (0 : Int32), .ref q_2, .null, .int (0 : Int32), .null, .null, .null, .null, .null, .long (0 : Int64)])), (q_1, .inl (cI, 80, .inl (fun _ => (0 : Int32)))), (q_2, .inl (cI, 24, .inl (fun _ => (0 : Int32)))), (q_3, .inl (cI, 40, .inl (fun _ => (0 : Int32))))] H locs := X
  refine W.widen (k := 3) (n := 144) (Nat.le_of_ble_eq_true rfl) (Nat.le_of_ble_eq_true rfl) ?_
  refine x_putF (own := RX10) (T := TX10) C X 0 rfl rfl 4 (by decide) k_3_21 rfl rfl rfl hin rfl (ty := (tyX10 4)) (v := .ref q_3) (by decide +kernel) rfl rfl (Nat.le_of_ble_eq_true rfl) dX10_init_35 (fun H locs X => ?_)
  have X : Wd D A s [(h0, .inr (10, [.int (0 : Int32), .ref q_1, .int (0 : Int32), .ref q_2, .ref q_3, .int (0 : Int32), .null, .null, .null, .null, .null, .long (0 : Int64)])), (q_1, .inl (cI, 80, .inl (fun _ => (0 : Int32)))), (q_2, .inl (cI, 24, .inl (fun _ => (0 : Int32)))), (q_3, .inl (cI, 40, .inl (fun _ => (0 : Int32))))] H locs := X
  refine lv_aload_n hx hb dX10_init_38 rfl (lv_at hl 0 rfl) ?_
  refine lv_iconst (v := (0 : Int32)) hx hb dX10_init_39 (by decide) ?_
  refine x_put (own := RX10) (T := TX10) C X 0 rfl rfl 5 (by decide) k_3_22 rfl rfl rfl (ty := .int) (v := .int (0 : Int32)) (by decide +kernel) rfl rfl (Nat.le_of_ble_eq_true rfl) dX10_init_40 (fun H locs X => ?_)
  have X : Wd D A s [(h0, .inr (10, [.int (0 : Int32), .ref q_1, .int (0 : Int32), .ref q_2, .ref q_3, .int (0 : Int32), .null, .null, .null, .null, .null, .long (0 : Int64)])), (q_1, .inl (cI, 80, .inl (fun _ => (0 : Int32)))), (q_2, .inl (cI, 24, .inl (fun _ => (0 : Int32)))), (q_3, .inl (cI, 40, .inl (fun _ => (0 : Int32))))] H locs := X
  refine lv_aload_n hx hb dX10_init_43 rfl (lv_at hl 0 rfl) ?_
  refine lv_sipush (v := (3200 : Int32)) hx hb dX10_init_44 (by decide) ?_
  refine x_newa (own := RX10) (atype := .int) (ty := .int) (N' := 3200) (a0 := (3200, .inl (fun _ => (0 : Int32)))) C X rfl k_2_7 0 rfl rfl (fun _ => rfl) (by decide) (by decide) (Nat.le_of_ble_eq_true rfl) (Nat.le_of_ble_eq_true rfl) (Nat.le_of_ble_eq_true rfl) dX10_init_47 (fun q_4 H X => ?_)
  have X : Wd D A s [(h0, .inr (10, [.int (0 : Int32), .ref q_1, .int (0 : Int32), .ref q_2, .ref q_3, .int (0 : Int32), .null, .null, .null, .null, .null, .long (0 : Int64)])), (q_1, .inl (cI, 80, .inl (fun _ => (0 : Int32)))), (q_2, .inl (cI, 24, .inl (fun _ => (0 : Int32)))), (q_3, .inl (cI, 40, .inl (fun _ => (0 : Int32)))), (q_4, .inl (cI, 3200, .inl (fun _ => (0 : Int32))))] H locs := X
  refine W.widen (k := 4) (n := 3344) (Nat.le_of_ble_eq_true rfl) (Nat.le_of_ble_eq_true rfl) ?_
  refine x_putF (own := RX10) (T := TX10) C X 0 rfl rfl 6 (by decide) k_3_23 rfl rfl rfl hin rfl (ty := (tyX10 6)) (v := .ref q_4) (by decide +kernel) rfl rfl (Nat.le_of_ble_eq_true rfl) dX10_init_49 (fun H locs X => ?_)
  have X : Wd D A s [(h0, .inr (10, [.int (0 : Int32), .ref q_1, .int (0 : Int32), .ref q_2, .ref q_3, .int (0 : Int32), .ref q_4, .null, .null, .null, .null, .long (0 : Int64)])), (q_1, .inl (cI, 80, .inl (fun _ => (0 : Int32)))), (q_2, .inl (cI, 24, .inl (fun _ => (0 : Int32)))), (q_3, .inl (cI, 40, .inl (fun _ => (0 : Int32)))), (q_4, .inl (cI, 3200, .inl (fun _ => (0 : Int32))))] H locs := X
  refine lv_aload_n hx hb dX10_init_52 rfl (lv_at hl 0 rfl) ?_
  refine lv_sipush (v := (16000 : Int32)) hx hb dX10_init_53 (by decide) ?_
  refine x_newa (own := RX10) (atype := .int) (ty := .int) (N' := 16000) (a0 := (16000, .inl (fun _ => (0 : Int32)))) C X rfl k_2_7 0 rfl rfl (fun _ => rfl) (by decide) (by decide) (Nat.le_of_ble_eq_true rfl) (Nat.le_of_ble_eq_true rfl) (Nat.le_of_ble_eq_true rfl) dX10_init_56 (fun q_5 H X => ?_)
  have X : Wd D A s [(h0, .inr (10, [.int (0 : Int32), .ref q_1, .int (0 : Int32), .ref q_2, .ref q_3, .int (0 : Int32), .ref q_4, .null, .null, .null, .null, .long (0 : Int64)])), (q_1, .inl (cI, 80, .inl (fun _ => (0 : Int32)))), (q_2, .inl (cI, 24, .inl (fun _ => (0 : Int32)))), (q_3, .inl (cI, 40, .inl (fun _ => (0 : Int32)))), (q_4, .inl (cI, 3200, .inl (fun _ => (0 : Int32)))), (q_5, .inl (cI, 16000, .inl (fun _ => (0 : Int32))))] H locs := X
  refine W.widen (k := 5) (n := 19344) (Nat.le_of_ble_eq_true rfl) (Nat.le_of_ble_eq_true rfl) ?_
  refine x_putF (own := RX10) (T := TX10) C X 0 rfl rfl 7 (by decide) k_4_0 rfl rfl rfl hin rfl (ty := (tyX10 7)) (v := .ref q_5) (by decide +kernel) rfl rfl (Nat.le_of_ble_eq_true rfl) dX10_init_58 (fun H locs X => ?_)
  have X : Wd D A s [(h0, .inr (10, [.int (0 : Int32), .ref q_1, .int (0 : Int32), .ref q_2, .ref q_3, .int (0 : Int32), .ref q_4, .ref q_5, .null, .null, .null, .long (0 : Int64)])), (q_1, .inl (cI, 80, .inl (fun _ => (0 : Int32)))), (q_2, .inl (cI, 24, .inl (fun _ => (0 : Int32)))), (q_3, .inl (cI, 40, .inl (fun _ => (0 : Int32)))), (q_4, .inl (cI, 3200, .inl (fun _ => (0 : Int32)))), (q_5, .inl (cI, 16000, .inl (fun _ => (0 : Int32))))] H locs := X
  refine lv_aload_n hx hb dX10_init_61 rfl (lv_at hl 0 rfl) ?_
  refine lv_sipush (v := (160 : Int32)) hx hb dX10_init_62 (by decide) ?_
  refine x_newa (own := RX10) (atype := .int) (ty := .int) (N' := 160) (a0 := (160, .inl (fun _ => (0 : Int32)))) C X rfl k_2_7 0 rfl rfl (fun _ => rfl) (by decide) (by decide) (Nat.le_of_ble_eq_true rfl) (Nat.le_of_ble_eq_true rfl) (Nat.le_of_ble_eq_true rfl) dX10_init_65 (fun q_6 H X => ?_)
  have X : Wd D A s [(h0, .inr (10, [.int (0 : Int32), .ref q_1, .int (0 : Int32), .ref q_2, .ref q_3, .int (0 : Int32), .ref q_4, .ref q_5, .null, .null, .null, .long (0 : Int64)])), (q_1, .inl (cI, 80, .inl (fun _ => (0 : Int32)))), (q_2, .inl (cI, 24, .inl (fun _ => (0 : Int32)))), (q_3, .inl (cI, 40, .inl (fun _ => (0 : Int32)))), (q_4, .inl (cI, 3200, .inl (fun _ => (0 : Int32)))), (q_5, .inl (cI, 16000, .inl (fun _ => (0 : Int32)))), (q_6, .inl (cI, 160, .inl (fun _ => (0 : Int32))))] H locs := X
  refine W.widen (k := 6) (n := 19504) (Nat.le_of_ble_eq_true rfl) (Nat.le_of_ble_eq_true rfl) ?_
  refine x_putF (own := RX10) (T := TX10) C X 0 rfl rfl 8 (by decide) k_4_1 rfl rfl rfl hin rfl (ty := (tyX10 8)) (v := .ref q_6) (by decide +kernel) rfl rfl (Nat.le_of_ble_eq_true rfl) dX10_init_67 (fun H locs X => ?_)
  have X : Wd D A s [(h0, .inr (10, [.int (0 : Int32), .ref q_1, .int (0 : Int32), .ref q_2, .ref q_3, .int (0 : Int32), .ref q_4, .ref q_5, .ref q_6, .null, .null, .long (0 : Int64)])), (q_1, .inl (cI, 80, .inl (fun _ => (0 : Int32)))), (q_2, .inl (cI, 24, .inl (fun _ => (0 : Int32)))), (q_3, .inl (cI, 40, .inl (fun _ => (0 : Int32)))), (q_4, .inl (cI, 3200, .inl (fun _ => (0 : Int32)))), (q_5, .inl (cI, 16000, .inl (fun _ => (0 : Int32)))), (q_6, .inl (cI, 160, .inl (fun _ => (0 : Int32))))] H locs := X
  refine lv_aload_n hx hb dX10_init_70 rfl (lv_at hl 0 rfl) ?_
  refine lv_sipush (v := (800 : Int32)) hx hb dX10_init_71 (by decide) ?_
  refine x_newa (own := RX10) (atype := .int) (ty := .int) (N' := 800) (a0 := (800, .inl (fun _ => (0 : Int32)))) C X rfl k_2_7 0 rfl rfl (fun _ => rfl) (by decide) (by decide) (Nat.le_of_ble_eq_true rfl) (Nat.le_of_ble_eq_true rfl) (Nat.le_of_ble_eq_true rfl) dX10_init_74 (fun q_7 H X => ?_)
  have X : Wd D A s [(h0, .inr (10, [.int (0 : Int32), .ref q_1, .int (0 : Int32), .ref q_2, .ref q_3, .int (0 : Int32), .ref q_4, .ref q_5, .ref q_6, .null, .null, .long (0 : Int64)])), (q_1, .inl (cI, 80, .inl (fun _ => (0 : Int32)))), (q_2, .inl (cI, 24, .inl (fun _ => (0 : Int32)))), (q_3, .inl (cI, 40, .inl (fun _ => (0 : Int32)))), (q_4, .inl (cI, 3200, .inl (fun _ => (0 : Int32)))), (q_5, .inl (cI, 16000, .inl (fun _ => (0 : Int32)))), (q_6, .inl (cI, 160, .inl (fun _ => (0 : Int32)))), (q_7, .inl (cI, 800, .inl (fun _ => (0 : Int32))))] H locs := X
  refine W.widen (k := 7) (n := 20304) (Nat.le_of_ble_eq_true rfl) (Nat.le_of_ble_eq_true rfl) ?_
  refine x_putF (own := RX10) (T := TX10) C X 0 rfl rfl 9 (by decide) k_4_2 rfl rfl rfl hin rfl (ty := (tyX10 9)) (v := .ref q_7) (by decide +kernel) rfl rfl (Nat.le_of_ble_eq_true rfl) dX10_init_76 (fun H locs X => ?_)
  have X : Wd D A s [(h0, .inr (10, [.int (0 : Int32), .ref q_1, .int (0 : Int32), .ref q_2, .ref q_3, .int (0 : Int32), .ref q_4, .ref q_5, .ref q_6, .ref q_7, .null, .long (0 : Int64)])), (q_1, .inl (cI, 80, .inl (fun _ => (0 : Int32)))), (q_2, .inl (cI, 24, .inl (fun _ => (0 : Int32)))), (q_3, .inl (cI, 40, .inl (fun _ => (0 : Int32)))), (q_4, .inl (cI, 3200, .inl (fun _ => (0 : Int32)))), (q_5, .inl (cI, 16000, .inl (fun _ => (0 : Int32)))), (q_6, .inl (cI, 160, .inl (fun _ => (0 : Int32)))), (q_7, .inl (cI, 800, .inl (fun _ => (0 : Int32))))] H locs := X
  refine lv_aload_n hx hb dX10_init_79 rfl (lv_at hl 0 rfl) ?_
  refine lv_sipush (v := (800 : Int32)) hx hb dX10_init_80 (by decide) ?_
  refine x_newa (own := RX10) (atype := .int) (ty := .int) (N' := 800) (a0 := (800, .inl (fun _ => (0 : Int32)))) C X rfl k_2_7 0 rfl rfl (fun _ => rfl) (by decide) (by decide) (Nat.le_of_ble_eq_true rfl) (Nat.le_of_ble_eq_true rfl) (Nat.le_of_ble_eq_true rfl) dX10_init_83 (fun q_8 H X => ?_)
  have X : Wd D A s [(h0, .inr (10, [.int (0 : Int32), .ref q_1, .int (0 : Int32), .ref q_2, .ref q_3, .int (0 : Int32), .ref q_4, .ref q_5, .ref q_6, .ref q_7, .null, .long (0 : Int64)])), (q_1, .inl (cI, 80, .inl (fun _ => (0 : Int32)))), (q_2, .inl (cI, 24, .inl (fun _ => (0 : Int32)))), (q_3, .inl (cI, 40, .inl (fun _ => (0 : Int32)))), (q_4, .inl (cI, 3200, .inl (fun _ => (0 : Int32)))), (q_5, .inl (cI, 16000, .inl (fun _ => (0 : Int32)))), (q_6, .inl (cI, 160, .inl (fun _ => (0 : Int32)))), (q_7, .inl (cI, 800, .inl (fun _ => (0 : Int32)))), (q_8, .inl (cI, 800, .inl (fun _ => (0 : Int32))))] H locs := X
  refine W.widen (k := 8) (n := 21104) (Nat.le_of_ble_eq_true rfl) (Nat.le_of_ble_eq_true rfl) ?_
  refine x_putF (own := RX10) (T := TX10) C X 0 rfl rfl 10 (by decide) k_4_3 rfl rfl rfl hin rfl (ty := (tyX10 10)) (v := .ref q_8) (by decide +kernel) rfl rfl (Nat.le_of_ble_eq_true rfl) dX10_init_85 (fun H locs X => ?_)
  have X : Wd D A s [(h0, .inr (10, [.int (0 : Int32), .ref q_1, .int (0 : Int32), .ref q_2, .ref q_3, .int (0 : Int32), .ref q_4, .ref q_5, .ref q_6, .ref q_7, .ref q_8, .long (0 : Int64)])), (q_1, .inl (cI, 80, .inl (fun _ => (0 : Int32)))), (q_2, .inl (cI, 24, .inl (fun _ => (0 : Int32)))), (q_3, .inl (cI, 40, .inl (fun _ => (0 : Int32)))), (q_4, .inl (cI, 3200, .inl (fun _ => (0 : Int32)))), (q_5, .inl (cI, 16000, .inl (fun _ => (0 : Int32)))), (q_6, .inl (cI, 160, .inl (fun _ => (0 : Int32)))), (q_7, .inl (cI, 800, .inl (fun _ => (0 : Int32)))), (q_8, .inl (cI, 800, .inl (fun _ => (0 : Int32))))] H locs := X
  refine lv_aload_n hx hb dX10_init_88 rfl (lv_at hl 0 rfl) ?_
  refine lv_lconst (v := (1 : Int64)) hx hb dX10_init_89 (by decide) ?_
  refine x_put (own := RX10) (T := TX10) C X 0 rfl rfl 11 (by decide) k_4_4 rfl rfl rfl (ty := .long) (v := .long (1 : Int64)) (by decide +kernel) rfl rfl (Nat.le_of_ble_eq_true rfl) dX10_init_90 (fun H locs X => ?_)
  have X : Wd D A s [(h0, .inr (10, [.int (0 : Int32), .ref q_1, .int (0 : Int32), .ref q_2, .ref q_3, .int (0 : Int32), .ref q_4, .ref q_5, .ref q_6, .ref q_7, .ref q_8, .long (1 : Int64)])), (q_1, .inl (cI, 80, .inl (fun _ => (0 : Int32)))), (q_2, .inl (cI, 24, .inl (fun _ => (0 : Int32)))), (q_3, .inl (cI, 40, .inl (fun _ => (0 : Int32)))), (q_4, .inl (cI, 3200, .inl (fun _ => (0 : Int32)))), (q_5, .inl (cI, 16000, .inl (fun _ => (0 : Int32)))), (q_6, .inl (cI, 160, .inl (fun _ => (0 : Int32)))), (q_7, .inl (cI, 800, .inl (fun _ => (0 : Int32)))), (q_8, .inl (cI, 800, .inl (fun _ => (0 : Int32))))] H locs := X
  refine lv_aload_n hx hb dX10_init_93 rfl (lv_at hl 0 rfl) ?_
  refine x_get (own := RX10) (T := TX10) C X 0 rfl rfl 4 (by decide) k_3_21 rfl rfl (v := .ref q_3) rfl dX10_init_94 ?_
  refine lv_iconst (v := (-1 : Int32)) hx hb dX10_init_97 (by decide) ?_
  refine x_cSv (own := RX10) (wr := [(h0, .inr (10, [.int (0 : Int32), .ref q_1, .int (0 : Int32), .ref q_2, .ref q_3, .int (0 : Int32), .ref q_4, .ref q_5, .ref q_6, .ref q_7, .ref q_8, .long (1 : Int64)])), (q_1, .inl (cI, 80, .inl (fun _ => (0 : Int32)))), (q_2, .inl (cI, 24, .inl (fun _ => (0 : Int32)))), (q_4, .inl (cI, 3200, .inl (fun _ => (0 : Int32)))), (q_5, .inl (cI, 16000, .inl (fun _ => (0 : Int32)))), (q_6, .inl (cI, 160, .inl (fun _ => (0 : Int32)))), (q_7, .inl (cI, 800, .inl (fun _ => (0 : Int32)))), (q_8, .inl (cI, 800, .inl (fun _ => (0 : Int32))))]) (As := [.ref q_3, .int (-1 : Int32)]) C X hl.1 (c_fillI l D cI cJ cZ cB cO q_3 40 (fun _ => (0 : Int32)) (-1 : Int32) (by omega)) [3] [0, 1, 2, 4, 5, 6, 7, 8] ⟨rfl, rfl, by decide, by decide, by decide⟩ k_4_5 k_4_6 k_4_7 k_4_8 (n := 2) (by decide +kernel) ⟨Nat.le_of_ble_eq_true rfl, Nat.le_of_ble_eq_true rfl⟩ rfl rfl (Nat.le_of_ble_eq_true rfl) dX10_init_98 ⟨Nat.le_of_ble_eq_true rfl, Nat.le_of_ble_eq_true rfl⟩ (fun u_9 H locs w_11 X => ?_)
  have X : Wd D A s [(h0, .inr (10, [.int (0 : Int32), .ref q_1, .int (0 : Int32), .ref q_2, .ref q_3, .int (0 : Int32), .ref q_4, .ref q_5, .ref q_6, .ref q_7, .ref q_8, .long (1 : Int64)])), (q_1, .inl (cI, 80, .inl (fun _ => (0 : Int32)))), (q_2, .inl (cI, 24, .inl (fun _ => (0 : Int32)))), (q_4, .inl (cI, 3200, .inl (fun _ => (0 : Int32)))), (q_5, .inl (cI, 16000, .inl (fun _ => (0 : Int32)))), (q_6, .inl (cI, 160, .inl (fun _ => (0 : Int32)))), (q_7, .inl (cI, 800, .inl (fun _ => (0 : Int32)))), (q_8, .inl (cI, 800, .inl (fun _ => (0 : Int32)))), (q_3, .inl (cI, 40, .inl (fun _ => (-1 : Int32))))] H locs := X
  refine W.widen (k := 8) (n := 21104) (Nat.le_of_ble_eq_true rfl) (Nat.le_of_ble_eq_true rfl) ?_
  refine lv_aload_n hx hb dX10_init_101 rfl (lv_at hl 0 rfl) ?_
  refine x_get (own := RX10) (T := TX10) C X 0 rfl rfl 6 (by decide) k_3_23 rfl rfl (v := .ref q_4) rfl dX10_init_102 ?_
  refine lv_iconst (v := (-1 : Int32)) hx hb dX10_init_105 (by decide) ?_
  refine x_cSv (own := RX10) (wr := [(h0, .inr (10, [.int (0 : Int32), .ref q_1, .int (0 : Int32), .ref q_2, .ref q_3, .int (0 : Int32), .ref q_4, .ref q_5, .ref q_6, .ref q_7, .ref q_8, .long (1 : Int64)])), (q_1, .inl (cI, 80, .inl (fun _ => (0 : Int32)))), (q_2, .inl (cI, 24, .inl (fun _ => (0 : Int32)))), (q_5, .inl (cI, 16000, .inl (fun _ => (0 : Int32)))), (q_6, .inl (cI, 160, .inl (fun _ => (0 : Int32)))), (q_7, .inl (cI, 800, .inl (fun _ => (0 : Int32)))), (q_8, .inl (cI, 800, .inl (fun _ => (0 : Int32)))), (q_3, .inl (cI, 40, .inl (fun _ => (-1 : Int32))))]) (As := [.ref q_4, .int (-1 : Int32)]) C X hl.1 (c_fillI l D cI cJ cZ cB cO q_4 3200 (fun _ => (0 : Int32)) (-1 : Int32) (by omega)) [3] [0, 1, 2, 4, 5, 6, 7, 8] ⟨rfl, rfl, by decide, by decide, by decide⟩ k_4_5 k_4_6 k_4_7 k_4_8 (n := 2) (by decide +kernel) ⟨Nat.le_of_ble_eq_true rfl, Nat.le_of_ble_eq_true rfl⟩ rfl rfl (Nat.le_of_ble_eq_true rfl) dX10_init_106 ⟨Nat.le_of_ble_eq_true rfl, Nat.le_of_ble_eq_true rfl⟩ (fun u_12 H locs w_14 X => ?_)
  have X : Wd D A s [(h0, .inr (10, [.int (0 : Int32), .ref q_1, .int (0 : Int32), .ref q_2, .ref q_3, .int (0 : Int32), .ref q_4, .ref q_5, .ref q_6, .ref q_7, .ref q_8, .long (1 : Int64)])), (q_1, .inl (cI, 80, .inl (fun _ => (0 : Int32)))), (q_2, .inl (cI, 24, .inl (fun _ => (0 : Int32)))), (q_5, .inl (cI, 16000, .inl (fun _ => (0 : Int32)))), (q_6, .inl (cI, 160, .inl (fun _ => (0 : Int32)))), (q_7, .inl (cI, 800, .inl (fun _ => (0 : Int32)))), (q_8, .inl (cI, 800, .inl (fun _ => (0 : Int32)))), (q_3, .inl (cI, 40, .inl (fun _ => (-1 : Int32)))), (q_4, .inl (cI, 3200, .inl (fun _ => (-1 : Int32))))] H locs := X
  refine W.widen (k := 8) (n := 21104) (Nat.le_of_ble_eq_true rfl) (Nat.le_of_ble_eq_true rfl) ?_
  exact x_vret C X hr hlk (fun k => ([h0, q_1, q_2, q_3, q_4, q_5, q_6, q_7, q_8] : List Nat).getD k 0) [0, 1, 2, 7, 8, 3, 4, 5, 6] (by decide) rfl (trivial) (Nat.le_of_ble_eq_true rfl) (Nat.le_of_ble_eq_true rfl) dX10_init_109
set_option maxHeartbeats 4000000 in
set_option maxRecDepth 100000 in
theorem c_Law_init (l : Launch) (D : va_G) (cI cJ cZ cB : ClassId) (cO : ClassId) (h0 : Nat) :
    CV l D [(cI, .int), (cJ, .long), (cZ, .boolean), (cB, .byte), (cO, .object "LuckLinks$World")] yX3_init cX3_init 1 ({ frames := 1, cells := 15, slots := 1138, locals := 23 } : Room) [.ref h0] [(h0, .inr (3, [.int (0 : Int32), .null, .null, .null, .null, .null, .null, .null, .int (0 : Int32), .null, .null, .null, .int (0 : Int32), .null, .null, .null, .null, .int (0 : Int32), .null]))] (fun (u : (Nat → Nat)) => match u with | u => (True)) (fun (u : (Nat → Nat)) => match u with | u => [(h0, .inr (3, [.int (0 : Int32), .ref (u 1), .ref (u 2), .ref (u 3), .ref (u 4), .ref (u 5), .ref (u 6), .ref (u 7), .int (0 : Int32), .ref (u 8), .ref (u 9), .ref (u 10), .int (0 : Int32), .ref (u 11), .ref (u 12), .ref (u 13), .ref (u 14), .int (0 : Int32), .ref (u 15)])), ((u 1), .inl (cI, 4, .inl (fun _ => (0 : Int32)))), ((u 2), .inl (cI, 4, .inl (fun _ => (0 : Int32)))), ((u 3), .inl (cI, 3, .inl (fun _ => (0 : Int32)))), ((u 4), .inl (cI, 21, .inl (fun _ => (0 : Int32)))), ((u 5), .inl (cI, 21, .inl (fun _ => (0 : Int32)))), ((u 6), .inl (cI, 40, .inl (fun _ => (-1 : Int32)))), ((u 7), .inl (cI, 41, .inl (fun _ => (1 : Int32)))), ((u 8), .inl (cI, 40, .inl (fun _ => (0 : Int32)))), ((u 9), .inl (cI, 40, .inl (fun _ => (0 : Int32)))), ((u 10), .inl (cI, 40, .inl (fun _ => (0 : Int32)))), ((u 11), .inl (cI, 40, .inl (fun _ => (0 : Int32)))), ((u 12), .inl (cI, 40, .inl (fun _ => (0 : Int32)))), ((u 13), .inl (cI, 40, .inl (fun _ => (0 : Int32)))), ((u 14), .inl (cI, 700, .inl (fun _ => (0 : Int32)))), ((u 15), .inl (cZ, 64, .inl (fun _ => (0 : Int32))))]) := by
  intro sz
  refine body_of (y := yX3_init) (cc := cX3_init) (maxL := 1) (ret := none) (rm := ({ frames := 1, cells := 15, slots := 1138, locals := 23 } : Room)) (wc := [(h0, .inr (3, [.int (0 : Int32), .null, .null, .null, .null, .null, .null, .null, .int (0 : Int32), .null, .null, .null, .int (0 : Int32), .null, .null, .null, .null, .int (0 : Int32), .null]))]) (tys := [(cI, .int), (cJ, .long), (cZ, .boolean), (cB, .byte), (cO, .object "LuckLinks$World")]) (D := D) (sz := sz) (own := RX3) (av := [.ref h0]) (Qc := fun A => va_Qv (fun (u : (Nat → Nat)) => match u with | u => (True)) (fun u t => Aft D A ((fun (u : (Nat → Nat)) => match u with | u => [(h0, .inr (3, [.int (0 : Int32), .ref (u 1), .ref (u 2), .ref (u 3), .ref (u 4), .ref (u 5), .ref (u 6), .ref (u 7), .int (0 : Int32), .ref (u 8), .ref (u 9), .ref (u 10), .int (0 : Int32), .ref (u 11), .ref (u 12), .ref (u 13), .ref (u 14), .int (0 : Int32), .ref (u 15)])), ((u 1), .inl (cI, 4, .inl (fun _ => (0 : Int32)))), ((u 2), .inl (cI, 4, .inl (fun _ => (0 : Int32)))), ((u 3), .inl (cI, 3, .inl (fun _ => (0 : Int32)))), ((u 4), .inl (cI, 21, .inl (fun _ => (0 : Int32)))), ((u 5), .inl (cI, 21, .inl (fun _ => (0 : Int32)))), ((u 6), .inl (cI, 40, .inl (fun _ => (-1 : Int32)))), ((u 7), .inl (cI, 41, .inl (fun _ => (1 : Int32)))), ((u 8), .inl (cI, 40, .inl (fun _ => (0 : Int32)))), ((u 9), .inl (cI, 40, .inl (fun _ => (0 : Int32)))), ((u 10), .inl (cI, 40, .inl (fun _ => (0 : Int32)))), ((u 11), .inl (cI, 40, .inl (fun _ => (0 : Int32)))), ((u 12), .inl (cI, 40, .inl (fun _ => (0 : Int32)))), ((u 13), .inl (cI, 40, .inl (fun _ => (0 : Int32)))), ((u 14), .inl (cI, 700, .inl (fun _ => (0 : Int32)))), ((u 15), .inl (cZ, 64, .inl (fun _ => (0 : Int32))))]) u) t) A) (by decide) rfl (Nat.le_of_ble_eq_true rfl) (fun p e s m below meth c A ls C hr hlk hin X hl => ?_)
  have hx := C.1
  have hb := C.2.1
  have hown := C.2.2.2.1
  have hts := C.2.2.2.2.1
  have hl : lv_has ls 1 [(0, .ref h0)] := hl
  show W p l e _ s m _ below meth c s.heap [] 0 0 (MQ below (va_Qv (fun (u : (Nat → Nat)) => match u with | u => (True)) (fun u t => Aft D A ((fun (u : (Nat → Nat)) => match u with | u => [(h0, .inr (3, [.int (0 : Int32), .ref (u 1), .ref (u 2), .ref (u 3), .ref (u 4), .ref (u 5), .ref (u 6), .ref (u 7), .int (0 : Int32), .ref (u 8), .ref (u 9), .ref (u 10), .int (0 : Int32), .ref (u 11), .ref (u 12), .ref (u 13), .ref (u 14), .int (0 : Int32), .ref (u 15)])), ((u 1), .inl (cI, 4, .inl (fun _ => (0 : Int32)))), ((u 2), .inl (cI, 4, .inl (fun _ => (0 : Int32)))), ((u 3), .inl (cI, 3, .inl (fun _ => (0 : Int32)))), ((u 4), .inl (cI, 21, .inl (fun _ => (0 : Int32)))), ((u 5), .inl (cI, 21, .inl (fun _ => (0 : Int32)))), ((u 6), .inl (cI, 40, .inl (fun _ => (-1 : Int32)))), ((u 7), .inl (cI, 41, .inl (fun _ => (1 : Int32)))), ((u 8), .inl (cI, 40, .inl (fun _ => (0 : Int32)))), ((u 9), .inl (cI, 40, .inl (fun _ => (0 : Int32)))), ((u 10), .inl (cI, 40, .inl (fun _ => (0 : Int32)))), ((u 11), .inl (cI, 40, .inl (fun _ => (0 : Int32)))), ((u 12), .inl (cI, 40, .inl (fun _ => (0 : Int32)))), ((u 13), .inl (cI, 40, .inl (fun _ => (0 : Int32)))), ((u 14), .inl (cI, 700, .inl (fun _ => (0 : Int32)))), ((u 15), .inl (cZ, 64, .inl (fun _ => (0 : Int32))))]) u) t) A) ([.ref h0] : List Value).toArray s 15 1138 A) (F0 m 0 ls [])
  have X : Wd D A s [(h0, .inr (3, [.int (0 : Int32), .null, .null, .null, .null, .null, .null, .null, .int (0 : Int32), .null, .null, .null, .int (0 : Int32), .null, .null, .null, .null, .int (0 : Int32), .null]))] s.heap [] := X
  obtain ⟨H, locs, eH, eL⟩ : ∃ H locs, H = s.heap ∧ locs = ([] : List Loc) := ⟨_, _, rfl, rfl⟩
  rw [← eH, ← eL] at X ⊢
  clear eH eL
  refine lv_aload_n hx hb dX3_init_0 rfl (lv_at hl 0 rfl) ?_
  refine x_objInit (own := RX3) C hl.1 k_5_5 k_1_10 k_1_11 dX3_init_1 (Nat.le_of_ble_eq_true rfl) (Nat.le_of_ble_eq_true rfl) ?_
  refine lv_aload_n hx hb dX3_init_4 rfl (lv_at hl 0 rfl) ?_
  refine lv_iconst (v := (0 : Int32)) hx hb dX3_init_5 (by decide) ?_
  refine x_put (own := RX3) (T := TX3) C X 0 rfl rfl 0 (by decide) k_5_6 rfl rfl rfl (ty := .int) (v := .int (0 : Int32)) (by decide +kernel) rfl rfl (Nat.le_of_ble_eq_true rfl) dX3_init_6 (fun H locs X => ?_)
  have X : Wd D A s [(h0, .inr (3, [.int (0 : Int32), .null, .null, .null, .null, .null, .null, .null, .int (0 : Int32), .null, .null, .null, .int (0 : Int32), .null, .null, .null, .null, .int (0 : Int32), .null]))] H locs := X
  refine lv_aload_n hx hb dX3_init_9 rfl (lv_at hl 0 rfl) ?_
  refine lv_iconst (v := (4 : Int32)) hx hb dX3_init_10 (by decide) ?_
  refine x_newa (own := RX3) (atype := .int) (ty := .int) (N' := 4) (a0 := (4, .inl (fun _ => (0 : Int32)))) C X rfl k_2_7 0 rfl rfl (fun _ => rfl) (by decide) (by decide) (Nat.le_of_ble_eq_true rfl) (Nat.le_of_ble_eq_true rfl) (Nat.le_of_ble_eq_true rfl) dX3_init_11 (fun q_1 H X => ?_)
  have X : Wd D A s [(h0, .inr (3, [.int (0 : Int32), .null, .null, .null, .null, .null, .null, .null, .int (0 : Int32), .null, .null, .null, .int (0 : Int32), .null, .null, .null, .null, .int (0 : Int32), .null])), (q_1, .inl (cI, 4, .inl (fun _ => (0 : Int32))))] H locs := X
  refine W.widen (k := 1) (n := 4) (Nat.le_of_ble_eq_true rfl) (Nat.le_of_ble_eq_true rfl) ?_
  refine x_putF (own := RX3) (T := TX3) C X 0 rfl rfl 1 (by decide) k_5_7 rfl rfl rfl hin rfl (ty := (tyX3 1)) (v := .ref q_1) (by decide +kernel) rfl rfl (Nat.le_of_ble_eq_true rfl) dX3_init_13 (fun H locs X => ?_)
  have X : Wd D A s [(h0, .inr (3, [.int (0 : Int32), .ref q_1, .null, .null, .null, .null, .null, .null, .int (0 : Int32), .null, .null, .null, .int (0 : Int32), .null, .null, .null, .null, .int (0 : Int32), .null])), (q_1, .inl (cI, 4, .inl (fun _ => (0 : Int32))))] H locs := X
  refine lv_aload_n hx hb dX3_init_16 rfl (lv_at hl 0 rfl) ?_
  refine lv_iconst (v := (4 : Int32)) hx hb dX3_init_17 (by decide) ?_
  refine x_newa (own := RX3) (atype := .int) (ty := .int) (N' := 4) (a0 := (4, .inl (fun _ => (0 : Int32)))) C X rfl k_2_7 0 rfl rfl (fun _ => rfl) (by decide) (by decide) (Nat.le_of_ble_eq_true rfl) (Nat.le_of_ble_eq_true rfl) (Nat.le_of_ble_eq_true rfl) dX3_init_18 (fun q_2 H X => ?_)
  have X : Wd D A s [(h0, .inr (3, [.int (0 : Int32), .ref q_1, .null, .null, .null, .null, .null, .null, .int (0 : Int32), .null, .null, .null, .int (0 : Int32), .null, .null, .null, .null, .int (0 : Int32), .null])), (q_1, .inl (cI, 4, .inl (fun _ => (0 : Int32)))), (q_2, .inl (cI, 4, .inl (fun _ => (0 : Int32))))] H locs := X
  refine W.widen (k := 2) (n := 8) (Nat.le_of_ble_eq_true rfl) (Nat.le_of_ble_eq_true rfl) ?_
  refine x_putF (own := RX3) (T := TX3) C X 0 rfl rfl 2 (by decide) k_5_8 rfl rfl rfl hin rfl (ty := (tyX3 2)) (v := .ref q_2) (by decide +kernel) rfl rfl (Nat.le_of_ble_eq_true rfl) dX3_init_20 (fun H locs X => ?_)
  have X : Wd D A s [(h0, .inr (3, [.int (0 : Int32), .ref q_1, .ref q_2, .null, .null, .null, .null, .null, .int (0 : Int32), .null, .null, .null, .int (0 : Int32), .null, .null, .null, .null, .int (0 : Int32), .null])), (q_1, .inl (cI, 4, .inl (fun _ => (0 : Int32)))), (q_2, .inl (cI, 4, .inl (fun _ => (0 : Int32))))] H locs := X
  refine lv_aload_n hx hb dX3_init_23 rfl (lv_at hl 0 rfl) ?_
  refine lv_iconst (v := (3 : Int32)) hx hb dX3_init_24 (by decide) ?_
  refine x_newa (own := RX3) (atype := .int) (ty := .int) (N' := 3) (a0 := (3, .inl (fun _ => (0 : Int32)))) C X rfl k_2_7 0 rfl rfl (fun _ => rfl) (by decide) (by decide) (Nat.le_of_ble_eq_true rfl) (Nat.le_of_ble_eq_true rfl) (Nat.le_of_ble_eq_true rfl) dX3_init_25 (fun q_3 H X => ?_)
  have X : Wd D A s [(h0, .inr (3, [.int (0 : Int32), .ref q_1, .ref q_2, .null, .null, .null, .null, .null, .int (0 : Int32), .null, .null, .null, .int (0 : Int32), .null, .null, .null, .null, .int (0 : Int32), .null])), (q_1, .inl (cI, 4, .inl (fun _ => (0 : Int32)))), (q_2, .inl (cI, 4, .inl (fun _ => (0 : Int32)))), (q_3, .inl (cI, 3, .inl (fun _ => (0 : Int32))))] H locs := X
  refine W.widen (k := 3) (n := 11) (Nat.le_of_ble_eq_true rfl) (Nat.le_of_ble_eq_true rfl) ?_
  refine x_putF (own := RX3) (T := TX3) C X 0 rfl rfl 3 (by decide) k_5_9 rfl rfl rfl hin rfl (ty := (tyX3 3)) (v := .ref q_3) (by decide +kernel) rfl rfl (Nat.le_of_ble_eq_true rfl) dX3_init_27 (fun H locs X => ?_)
  have X : Wd D A s [(h0, .inr (3, [.int (0 : Int32), .ref q_1, .ref q_2, .ref q_3, .null, .null, .null, .null, .int (0 : Int32), .null, .null, .null, .int (0 : Int32), .null, .null, .null, .null, .int (0 : Int32), .null])), (q_1, .inl (cI, 4, .inl (fun _ => (0 : Int32)))), (q_2, .inl (cI, 4, .inl (fun _ => (0 : Int32)))), (q_3, .inl (cI, 3, .inl (fun _ => (0 : Int32))))] H locs := X
  refine lv_aload_n hx hb dX3_init_30 rfl (lv_at hl 0 rfl) ?_
  refine lv_bipush (v := (21 : Int32)) hx hb dX3_init_31 (by decide) ?_
  refine x_newa (own := RX3) (atype := .int) (ty := .int) (N' := 21) (a0 := (21, .inl (fun _ => (0 : Int32)))) C X rfl k_2_7 0 rfl rfl (fun _ => rfl) (by decide) (by decide) (Nat.le_of_ble_eq_true rfl) (Nat.le_of_ble_eq_true rfl) (Nat.le_of_ble_eq_true rfl) dX3_init_33 (fun q_4 H X => ?_)
  have X : Wd D A s [(h0, .inr (3, [.int (0 : Int32), .ref q_1, .ref q_2, .ref q_3, .null, .null, .null, .null, .int (0 : Int32), .null, .null, .null, .int (0 : Int32), .null, .null, .null, .null, .int (0 : Int32), .null])), (q_1, .inl (cI, 4, .inl (fun _ => (0 : Int32)))), (q_2, .inl (cI, 4, .inl (fun _ => (0 : Int32)))), (q_3, .inl (cI, 3, .inl (fun _ => (0 : Int32)))), (q_4, .inl (cI, 21, .inl (fun _ => (0 : Int32))))] H locs := X
  refine W.widen (k := 4) (n := 32) (Nat.le_of_ble_eq_true rfl) (Nat.le_of_ble_eq_true rfl) ?_
  refine x_putF (own := RX3) (T := TX3) C X 0 rfl rfl 4 (by decide) k_5_10 rfl rfl rfl hin rfl (ty := (tyX3 4)) (v := .ref q_4) (by decide +kernel) rfl rfl (Nat.le_of_ble_eq_true rfl) dX3_init_35 (fun H locs X => ?_)
  have X : Wd D A s [(h0, .inr (3, [.int (0 : Int32), .ref q_1, .ref q_2, .ref q_3, .ref q_4, .null, .null, .null, .int (0 : Int32), .null, .null, .null, .int (0 : Int32), .null, .null, .null, .null, .int (0 : Int32), .null])), (q_1, .inl (cI, 4, .inl (fun _ => (0 : Int32)))), (q_2, .inl (cI, 4, .inl (fun _ => (0 : Int32)))), (q_3, .inl (cI, 3, .inl (fun _ => (0 : Int32)))), (q_4, .inl (cI, 21, .inl (fun _ => (0 : Int32))))] H locs := X
  refine lv_aload_n hx hb dX3_init_38 rfl (lv_at hl 0 rfl) ?_
  refine lv_bipush (v := (21 : Int32)) hx hb dX3_init_39 (by decide) ?_
  refine x_newa (own := RX3) (atype := .int) (ty := .int) (N' := 21) (a0 := (21, .inl (fun _ => (0 : Int32)))) C X rfl k_2_7 0 rfl rfl (fun _ => rfl) (by decide) (by decide) (Nat.le_of_ble_eq_true rfl) (Nat.le_of_ble_eq_true rfl) (Nat.le_of_ble_eq_true rfl) dX3_init_41 (fun q_5 H X => ?_)
  have X : Wd D A s [(h0, .inr (3, [.int (0 : Int32), .ref q_1, .ref q_2, .ref q_3, .ref q_4, .null, .null, .null, .int (0 : Int32), .null, .null, .null, .int (0 : Int32), .null, .null, .null, .null, .int (0 : Int32), .null])), (q_1, .inl (cI, 4, .inl (fun _ => (0 : Int32)))), (q_2, .inl (cI, 4, .inl (fun _ => (0 : Int32)))), (q_3, .inl (cI, 3, .inl (fun _ => (0 : Int32)))), (q_4, .inl (cI, 21, .inl (fun _ => (0 : Int32)))), (q_5, .inl (cI, 21, .inl (fun _ => (0 : Int32))))] H locs := X
  refine W.widen (k := 5) (n := 53) (Nat.le_of_ble_eq_true rfl) (Nat.le_of_ble_eq_true rfl) ?_
  refine x_putF (own := RX3) (T := TX3) C X 0 rfl rfl 5 (by decide) k_5_11 rfl rfl rfl hin rfl (ty := (tyX3 5)) (v := .ref q_5) (by decide +kernel) rfl rfl (Nat.le_of_ble_eq_true rfl) dX3_init_43 (fun H locs X => ?_)
  have X : Wd D A s [(h0, .inr (3, [.int (0 : Int32), .ref q_1, .ref q_2, .ref q_3, .ref q_4, .ref q_5, .null, .null, .int (0 : Int32), .null, .null, .null, .int (0 : Int32), .null, .null, .null, .null, .int (0 : Int32), .null])), (q_1, .inl (cI, 4, .inl (fun _ => (0 : Int32)))), (q_2, .inl (cI, 4, .inl (fun _ => (0 : Int32)))), (q_3, .inl (cI, 3, .inl (fun _ => (0 : Int32)))), (q_4, .inl (cI, 21, .inl (fun _ => (0 : Int32)))), (q_5, .inl (cI, 21, .inl (fun _ => (0 : Int32))))] H locs := X
  refine lv_aload_n hx hb dX3_init_46 rfl (lv_at hl 0 rfl) ?_
  refine lv_bipush (v := (40 : Int32)) hx hb dX3_init_47 (by decide) ?_
  refine x_newa (own := RX3) (atype := .int) (ty := .int) (N' := 40) (a0 := (40, .inl (fun _ => (0 : Int32)))) C X rfl k_2_7 0 rfl rfl (fun _ => rfl) (by decide) (by decide) (Nat.le_of_ble_eq_true rfl) (Nat.le_of_ble_eq_true rfl) (Nat.le_of_ble_eq_true rfl) dX3_init_49 (fun q_6 H X => ?_)
  have X : Wd D A s [(h0, .inr (3, [.int (0 : Int32), .ref q_1, .ref q_2, .ref q_3, .ref q_4, .ref q_5, .null, .null, .int (0 : Int32), .null, .null, .null, .int (0 : Int32), .null, .null, .null, .null, .int (0 : Int32), .null])), (q_1, .inl (cI, 4, .inl (fun _ => (0 : Int32)))), (q_2, .inl (cI, 4, .inl (fun _ => (0 : Int32)))), (q_3, .inl (cI, 3, .inl (fun _ => (0 : Int32)))), (q_4, .inl (cI, 21, .inl (fun _ => (0 : Int32)))), (q_5, .inl (cI, 21, .inl (fun _ => (0 : Int32)))), (q_6, .inl (cI, 40, .inl (fun _ => (0 : Int32))))] H locs := X
  refine W.widen (k := 6) (n := 93) (Nat.le_of_ble_eq_true rfl) (Nat.le_of_ble_eq_true rfl) ?_
  refine x_putF (own := RX3) (T := TX3) C X 0 rfl rfl 6 (by decide) k_5_12 rfl rfl rfl hin rfl (ty := (tyX3 6)) (v := .ref q_6) (by decide +kernel) rfl rfl (Nat.le_of_ble_eq_true rfl) dX3_init_51 (fun H locs X => ?_)
  have X : Wd D A s [(h0, .inr (3, [.int (0 : Int32), .ref q_1, .ref q_2, .ref q_3, .ref q_4, .ref q_5, .ref q_6, .null, .int (0 : Int32), .null, .null, .null, .int (0 : Int32), .null, .null, .null, .null, .int (0 : Int32), .null])), (q_1, .inl (cI, 4, .inl (fun _ => (0 : Int32)))), (q_2, .inl (cI, 4, .inl (fun _ => (0 : Int32)))), (q_3, .inl (cI, 3, .inl (fun _ => (0 : Int32)))), (q_4, .inl (cI, 21, .inl (fun _ => (0 : Int32)))), (q_5, .inl (cI, 21, .inl (fun _ => (0 : Int32)))), (q_6, .inl (cI, 40, .inl (fun _ => (0 : Int32))))] H locs := X
  refine lv_aload_n hx hb dX3_init_54 rfl (lv_at hl 0 rfl) ?_
  refine lv_bipush (v := (41 : Int32)) hx hb dX3_init_55 (by decide) ?_
  refine x_newa (own := RX3) (atype := .int) (ty := .int) (N' := 41) (a0 := (41, .inl (fun _ => (0 : Int32)))) C X rfl k_2_7 0 rfl rfl (fun _ => rfl) (by decide) (by decide) (Nat.le_of_ble_eq_true rfl) (Nat.le_of_ble_eq_true rfl) (Nat.le_of_ble_eq_true rfl) dX3_init_57 (fun q_7 H X => ?_)
  have X : Wd D A s [(h0, .inr (3, [.int (0 : Int32), .ref q_1, .ref q_2, .ref q_3, .ref q_4, .ref q_5, .ref q_6, .null, .int (0 : Int32), .null, .null, .null, .int (0 : Int32), .null, .null, .null, .null, .int (0 : Int32), .null])), (q_1, .inl (cI, 4, .inl (fun _ => (0 : Int32)))), (q_2, .inl (cI, 4, .inl (fun _ => (0 : Int32)))), (q_3, .inl (cI, 3, .inl (fun _ => (0 : Int32)))), (q_4, .inl (cI, 21, .inl (fun _ => (0 : Int32)))), (q_5, .inl (cI, 21, .inl (fun _ => (0 : Int32)))), (q_6, .inl (cI, 40, .inl (fun _ => (0 : Int32)))), (q_7, .inl (cI, 41, .inl (fun _ => (0 : Int32))))] H locs := X
  refine W.widen (k := 7) (n := 134) (Nat.le_of_ble_eq_true rfl) (Nat.le_of_ble_eq_true rfl) ?_
  refine x_putF (own := RX3) (T := TX3) C X 0 rfl rfl 7 (by decide) k_5_13 rfl rfl rfl hin rfl (ty := (tyX3 7)) (v := .ref q_7) (by decide +kernel) rfl rfl (Nat.le_of_ble_eq_true rfl) dX3_init_59 (fun H locs X => ?_)
  have X : Wd D A s [(h0, .inr (3, [.int (0 : Int32), .ref q_1, .ref q_2, .ref q_3, .ref q_4, .ref q_5, .ref q_6, .ref q_7, .int (0 : Int32), .null, .null, .null, .int (0 : Int32), .null, .null, .null, .null, .int (0 : Int32), .null])), (q_1, .inl (cI, 4, .inl (fun _ => (0 : Int32)))), (q_2, .inl (cI, 4, .inl (fun _ => (0 : Int32)))), (q_3, .inl (cI, 3, .inl (fun _ => (0 : Int32)))), (q_4, .inl (cI, 21, .inl (fun _ => (0 : Int32)))), (q_5, .inl (cI, 21, .inl (fun _ => (0 : Int32)))), (q_6, .inl (cI, 40, .inl (fun _ => (0 : Int32)))), (q_7, .inl (cI, 41, .inl (fun _ => (0 : Int32))))] H locs := X
  refine lv_aload_n hx hb dX3_init_62 rfl (lv_at hl 0 rfl) ?_
  refine lv_iconst (v := (0 : Int32)) hx hb dX3_init_63 (by decide) ?_
  refine x_put (own := RX3) (T := TX3) C X 0 rfl rfl 8 (by decide) k_5_14 rfl rfl rfl (ty := .int) (v := .int (0 : Int32)) (by decide +kernel) rfl rfl (Nat.le_of_ble_eq_true rfl) dX3_init_64 (fun H locs X => ?_)
  have X : Wd D A s [(h0, .inr (3, [.int (0 : Int32), .ref q_1, .ref q_2, .ref q_3, .ref q_4, .ref q_5, .ref q_6, .ref q_7, .int (0 : Int32), .null, .null, .null, .int (0 : Int32), .null, .null, .null, .null, .int (0 : Int32), .null])), (q_1, .inl (cI, 4, .inl (fun _ => (0 : Int32)))), (q_2, .inl (cI, 4, .inl (fun _ => (0 : Int32)))), (q_3, .inl (cI, 3, .inl (fun _ => (0 : Int32)))), (q_4, .inl (cI, 21, .inl (fun _ => (0 : Int32)))), (q_5, .inl (cI, 21, .inl (fun _ => (0 : Int32)))), (q_6, .inl (cI, 40, .inl (fun _ => (0 : Int32)))), (q_7, .inl (cI, 41, .inl (fun _ => (0 : Int32))))] H locs := X
  refine lv_aload_n hx hb dX3_init_67 rfl (lv_at hl 0 rfl) ?_
  refine lv_bipush (v := (40 : Int32)) hx hb dX3_init_68 (by decide) ?_
  refine x_newa (own := RX3) (atype := .int) (ty := .int) (N' := 40) (a0 := (40, .inl (fun _ => (0 : Int32)))) C X rfl k_2_7 0 rfl rfl (fun _ => rfl) (by decide) (by decide) (Nat.le_of_ble_eq_true rfl) (Nat.le_of_ble_eq_true rfl) (Nat.le_of_ble_eq_true rfl) dX3_init_70 (fun q_8 H X => ?_)
  have X : Wd D A s [(h0, .inr (3, [.int (0 : Int32), .ref q_1, .ref q_2, .ref q_3, .ref q_4, .ref q_5, .ref q_6, .ref q_7, .int (0 : Int32), .null, .null, .null, .int (0 : Int32), .null, .null, .null, .null, .int (0 : Int32), .null])), (q_1, .inl (cI, 4, .inl (fun _ => (0 : Int32)))), (q_2, .inl (cI, 4, .inl (fun _ => (0 : Int32)))), (q_3, .inl (cI, 3, .inl (fun _ => (0 : Int32)))), (q_4, .inl (cI, 21, .inl (fun _ => (0 : Int32)))), (q_5, .inl (cI, 21, .inl (fun _ => (0 : Int32)))), (q_6, .inl (cI, 40, .inl (fun _ => (0 : Int32)))), (q_7, .inl (cI, 41, .inl (fun _ => (0 : Int32)))), (q_8, .inl (cI, 40, .inl (fun _ => (0 : Int32))))] H locs := X
  refine W.widen (k := 8) (n := 174) (Nat.le_of_ble_eq_true rfl) (Nat.le_of_ble_eq_true rfl) ?_
  refine x_putF (own := RX3) (T := TX3) C X 0 rfl rfl 9 (by decide) k_5_15 rfl rfl rfl hin rfl (ty := (tyX3 9)) (v := .ref q_8) (by decide +kernel) rfl rfl (Nat.le_of_ble_eq_true rfl) dX3_init_72 (fun H locs X => ?_)
  have X : Wd D A s [(h0, .inr (3, [.int (0 : Int32), .ref q_1, .ref q_2, .ref q_3, .ref q_4, .ref q_5, .ref q_6, .ref q_7, .int (0 : Int32), .ref q_8, .null, .null, .int (0 : Int32), .null, .null, .null, .null, .int (0 : Int32), .null])), (q_1, .inl (cI, 4, .inl (fun _ => (0 : Int32)))), (q_2, .inl (cI, 4, .inl (fun _ => (0 : Int32)))), (q_3, .inl (cI, 3, .inl (fun _ => (0 : Int32)))), (q_4, .inl (cI, 21, .inl (fun _ => (0 : Int32)))), (q_5, .inl (cI, 21, .inl (fun _ => (0 : Int32)))), (q_6, .inl (cI, 40, .inl (fun _ => (0 : Int32)))), (q_7, .inl (cI, 41, .inl (fun _ => (0 : Int32)))), (q_8, .inl (cI, 40, .inl (fun _ => (0 : Int32))))] H locs := X
  refine lv_aload_n hx hb dX3_init_75 rfl (lv_at hl 0 rfl) ?_
  refine lv_bipush (v := (40 : Int32)) hx hb dX3_init_76 (by decide) ?_
  refine x_newa (own := RX3) (atype := .int) (ty := .int) (N' := 40) (a0 := (40, .inl (fun _ => (0 : Int32)))) C X rfl k_2_7 0 rfl rfl (fun _ => rfl) (by decide) (by decide) (Nat.le_of_ble_eq_true rfl) (Nat.le_of_ble_eq_true rfl) (Nat.le_of_ble_eq_true rfl) dX3_init_78 (fun q_9 H X => ?_)
  have X : Wd D A s [(h0, .inr (3, [.int (0 : Int32), .ref q_1, .ref q_2, .ref q_3, .ref q_4, .ref q_5, .ref q_6, .ref q_7, .int (0 : Int32), .ref q_8, .null, .null, .int (0 : Int32), .null, .null, .null, .null, .int (0 : Int32), .null])), (q_1, .inl (cI, 4, .inl (fun _ => (0 : Int32)))), (q_2, .inl (cI, 4, .inl (fun _ => (0 : Int32)))), (q_3, .inl (cI, 3, .inl (fun _ => (0 : Int32)))), (q_4, .inl (cI, 21, .inl (fun _ => (0 : Int32)))), (q_5, .inl (cI, 21, .inl (fun _ => (0 : Int32)))), (q_6, .inl (cI, 40, .inl (fun _ => (0 : Int32)))), (q_7, .inl (cI, 41, .inl (fun _ => (0 : Int32)))), (q_8, .inl (cI, 40, .inl (fun _ => (0 : Int32)))), (q_9, .inl (cI, 40, .inl (fun _ => (0 : Int32))))] H locs := X
  refine W.widen (k := 9) (n := 214) (Nat.le_of_ble_eq_true rfl) (Nat.le_of_ble_eq_true rfl) ?_
  refine x_putF (own := RX3) (T := TX3) C X 0 rfl rfl 10 (by decide) k_5_16 rfl rfl rfl hin rfl (ty := (tyX3 10)) (v := .ref q_9) (by decide +kernel) rfl rfl (Nat.le_of_ble_eq_true rfl) dX3_init_80 (fun H locs X => ?_)
  have X : Wd D A s [(h0, .inr (3, [.int (0 : Int32), .ref q_1, .ref q_2, .ref q_3, .ref q_4, .ref q_5, .ref q_6, .ref q_7, .int (0 : Int32), .ref q_8, .ref q_9, .null, .int (0 : Int32), .null, .null, .null, .null, .int (0 : Int32), .null])), (q_1, .inl (cI, 4, .inl (fun _ => (0 : Int32)))), (q_2, .inl (cI, 4, .inl (fun _ => (0 : Int32)))), (q_3, .inl (cI, 3, .inl (fun _ => (0 : Int32)))), (q_4, .inl (cI, 21, .inl (fun _ => (0 : Int32)))), (q_5, .inl (cI, 21, .inl (fun _ => (0 : Int32)))), (q_6, .inl (cI, 40, .inl (fun _ => (0 : Int32)))), (q_7, .inl (cI, 41, .inl (fun _ => (0 : Int32)))), (q_8, .inl (cI, 40, .inl (fun _ => (0 : Int32)))), (q_9, .inl (cI, 40, .inl (fun _ => (0 : Int32))))] H locs := X
  refine lv_aload_n hx hb dX3_init_83 rfl (lv_at hl 0 rfl) ?_
  refine lv_bipush (v := (40 : Int32)) hx hb dX3_init_84 (by decide) ?_
  refine x_newa (own := RX3) (atype := .int) (ty := .int) (N' := 40) (a0 := (40, .inl (fun _ => (0 : Int32)))) C X rfl k_2_7 0 rfl rfl (fun _ => rfl) (by decide) (by decide) (Nat.le_of_ble_eq_true rfl) (Nat.le_of_ble_eq_true rfl) (Nat.le_of_ble_eq_true rfl) dX3_init_86 (fun q_10 H X => ?_)
  have X : Wd D A s [(h0, .inr (3, [.int (0 : Int32), .ref q_1, .ref q_2, .ref q_3, .ref q_4, .ref q_5, .ref q_6, .ref q_7, .int (0 : Int32), .ref q_8, .ref q_9, .null, .int (0 : Int32), .null, .null, .null, .null, .int (0 : Int32), .null])), (q_1, .inl (cI, 4, .inl (fun _ => (0 : Int32)))), (q_2, .inl (cI, 4, .inl (fun _ => (0 : Int32)))), (q_3, .inl (cI, 3, .inl (fun _ => (0 : Int32)))), (q_4, .inl (cI, 21, .inl (fun _ => (0 : Int32)))), (q_5, .inl (cI, 21, .inl (fun _ => (0 : Int32)))), (q_6, .inl (cI, 40, .inl (fun _ => (0 : Int32)))), (q_7, .inl (cI, 41, .inl (fun _ => (0 : Int32)))), (q_8, .inl (cI, 40, .inl (fun _ => (0 : Int32)))), (q_9, .inl (cI, 40, .inl (fun _ => (0 : Int32)))), (q_10, .inl (cI, 40, .inl (fun _ => (0 : Int32))))] H locs := X
  refine W.widen (k := 10) (n := 254) (Nat.le_of_ble_eq_true rfl) (Nat.le_of_ble_eq_true rfl) ?_
  refine x_putF (own := RX3) (T := TX3) C X 0 rfl rfl 11 (by decide) k_5_17 rfl rfl rfl hin rfl (ty := (tyX3 11)) (v := .ref q_10) (by decide +kernel) rfl rfl (Nat.le_of_ble_eq_true rfl) dX3_init_88 (fun H locs X => ?_)
  have X : Wd D A s [(h0, .inr (3, [.int (0 : Int32), .ref q_1, .ref q_2, .ref q_3, .ref q_4, .ref q_5, .ref q_6, .ref q_7, .int (0 : Int32), .ref q_8, .ref q_9, .ref q_10, .int (0 : Int32), .null, .null, .null, .null, .int (0 : Int32), .null])), (q_1, .inl (cI, 4, .inl (fun _ => (0 : Int32)))), (q_2, .inl (cI, 4, .inl (fun _ => (0 : Int32)))), (q_3, .inl (cI, 3, .inl (fun _ => (0 : Int32)))), (q_4, .inl (cI, 21, .inl (fun _ => (0 : Int32)))), (q_5, .inl (cI, 21, .inl (fun _ => (0 : Int32)))), (q_6, .inl (cI, 40, .inl (fun _ => (0 : Int32)))), (q_7, .inl (cI, 41, .inl (fun _ => (0 : Int32)))), (q_8, .inl (cI, 40, .inl (fun _ => (0 : Int32)))), (q_9, .inl (cI, 40, .inl (fun _ => (0 : Int32)))), (q_10, .inl (cI, 40, .inl (fun _ => (0 : Int32))))] H locs := X
  refine lv_aload_n hx hb dX3_init_91 rfl (lv_at hl 0 rfl) ?_
  refine lv_iconst (v := (0 : Int32)) hx hb dX3_init_92 (by decide) ?_
  refine x_put (own := RX3) (T := TX3) C X 0 rfl rfl 12 (by decide) k_5_18 rfl rfl rfl (ty := .int) (v := .int (0 : Int32)) (by decide +kernel) rfl rfl (Nat.le_of_ble_eq_true rfl) dX3_init_93 (fun H locs X => ?_)
  have X : Wd D A s [(h0, .inr (3, [.int (0 : Int32), .ref q_1, .ref q_2, .ref q_3, .ref q_4, .ref q_5, .ref q_6, .ref q_7, .int (0 : Int32), .ref q_8, .ref q_9, .ref q_10, .int (0 : Int32), .null, .null, .null, .null, .int (0 : Int32), .null])), (q_1, .inl (cI, 4, .inl (fun _ => (0 : Int32)))), (q_2, .inl (cI, 4, .inl (fun _ => (0 : Int32)))), (q_3, .inl (cI, 3, .inl (fun _ => (0 : Int32)))), (q_4, .inl (cI, 21, .inl (fun _ => (0 : Int32)))), (q_5, .inl (cI, 21, .inl (fun _ => (0 : Int32)))), (q_6, .inl (cI, 40, .inl (fun _ => (0 : Int32)))), (q_7, .inl (cI, 41, .inl (fun _ => (0 : Int32)))), (q_8, .inl (cI, 40, .inl (fun _ => (0 : Int32)))), (q_9, .inl (cI, 40, .inl (fun _ => (0 : Int32)))), (q_10, .inl (cI, 40, .inl (fun _ => (0 : Int32))))] H locs := X
  refine lv_aload_n hx hb dX3_init_96 rfl (lv_at hl 0 rfl) ?_
  refine lv_bipush (v := (40 : Int32)) hx hb dX3_init_97 (by decide) ?_
  refine x_newa (own := RX3) (atype := .int) (ty := .int) (N' := 40) (a0 := (40, .inl (fun _ => (0 : Int32)))) C X rfl k_2_7 0 rfl rfl (fun _ => rfl) (by decide) (by decide) (Nat.le_of_ble_eq_true rfl) (Nat.le_of_ble_eq_true rfl) (Nat.le_of_ble_eq_true rfl) dX3_init_99 (fun q_11 H X => ?_)
  have X : Wd D A s [(h0, .inr (3, [.int (0 : Int32), .ref q_1, .ref q_2, .ref q_3, .ref q_4, .ref q_5, .ref q_6, .ref q_7, .int (0 : Int32), .ref q_8, .ref q_9, .ref q_10, .int (0 : Int32), .null, .null, .null, .null, .int (0 : Int32), .null])), (q_1, .inl (cI, 4, .inl (fun _ => (0 : Int32)))), (q_2, .inl (cI, 4, .inl (fun _ => (0 : Int32)))), (q_3, .inl (cI, 3, .inl (fun _ => (0 : Int32)))), (q_4, .inl (cI, 21, .inl (fun _ => (0 : Int32)))), (q_5, .inl (cI, 21, .inl (fun _ => (0 : Int32)))), (q_6, .inl (cI, 40, .inl (fun _ => (0 : Int32)))), (q_7, .inl (cI, 41, .inl (fun _ => (0 : Int32)))), (q_8, .inl (cI, 40, .inl (fun _ => (0 : Int32)))), (q_9, .inl (cI, 40, .inl (fun _ => (0 : Int32)))), (q_10, .inl (cI, 40, .inl (fun _ => (0 : Int32)))), (q_11, .inl (cI, 40, .inl (fun _ => (0 : Int32))))] H locs := X
  refine W.widen (k := 11) (n := 294) (Nat.le_of_ble_eq_true rfl) (Nat.le_of_ble_eq_true rfl) ?_
  refine x_putF (own := RX3) (T := TX3) C X 0 rfl rfl 13 (by decide) k_5_19 rfl rfl rfl hin rfl (ty := (tyX3 13)) (v := .ref q_11) (by decide +kernel) rfl rfl (Nat.le_of_ble_eq_true rfl) dX3_init_101 (fun H locs X => ?_)
  have X : Wd D A s [(h0, .inr (3, [.int (0 : Int32), .ref q_1, .ref q_2, .ref q_3, .ref q_4, .ref q_5, .ref q_6, .ref q_7, .int (0 : Int32), .ref q_8, .ref q_9, .ref q_10, .int (0 : Int32), .ref q_11, .null, .null, .null, .int (0 : Int32), .null])), (q_1, .inl (cI, 4, .inl (fun _ => (0 : Int32)))), (q_2, .inl (cI, 4, .inl (fun _ => (0 : Int32)))), (q_3, .inl (cI, 3, .inl (fun _ => (0 : Int32)))), (q_4, .inl (cI, 21, .inl (fun _ => (0 : Int32)))), (q_5, .inl (cI, 21, .inl (fun _ => (0 : Int32)))), (q_6, .inl (cI, 40, .inl (fun _ => (0 : Int32)))), (q_7, .inl (cI, 41, .inl (fun _ => (0 : Int32)))), (q_8, .inl (cI, 40, .inl (fun _ => (0 : Int32)))), (q_9, .inl (cI, 40, .inl (fun _ => (0 : Int32)))), (q_10, .inl (cI, 40, .inl (fun _ => (0 : Int32)))), (q_11, .inl (cI, 40, .inl (fun _ => (0 : Int32))))] H locs := X
  refine lv_aload_n hx hb dX3_init_104 rfl (lv_at hl 0 rfl) ?_
  refine lv_bipush (v := (40 : Int32)) hx hb dX3_init_105 (by decide) ?_
  refine x_newa (own := RX3) (atype := .int) (ty := .int) (N' := 40) (a0 := (40, .inl (fun _ => (0 : Int32)))) C X rfl k_2_7 0 rfl rfl (fun _ => rfl) (by decide) (by decide) (Nat.le_of_ble_eq_true rfl) (Nat.le_of_ble_eq_true rfl) (Nat.le_of_ble_eq_true rfl) dX3_init_107 (fun q_12 H X => ?_)
  have X : Wd D A s [(h0, .inr (3, [.int (0 : Int32), .ref q_1, .ref q_2, .ref q_3, .ref q_4, .ref q_5, .ref q_6, .ref q_7, .int (0 : Int32), .ref q_8, .ref q_9, .ref q_10, .int (0 : Int32), .ref q_11, .null, .null, .null, .int (0 : Int32), .null])), (q_1, .inl (cI, 4, .inl (fun _ => (0 : Int32)))), (q_2, .inl (cI, 4, .inl (fun _ => (0 : Int32)))), (q_3, .inl (cI, 3, .inl (fun _ => (0 : Int32)))), (q_4, .inl (cI, 21, .inl (fun _ => (0 : Int32)))), (q_5, .inl (cI, 21, .inl (fun _ => (0 : Int32)))), (q_6, .inl (cI, 40, .inl (fun _ => (0 : Int32)))), (q_7, .inl (cI, 41, .inl (fun _ => (0 : Int32)))), (q_8, .inl (cI, 40, .inl (fun _ => (0 : Int32)))), (q_9, .inl (cI, 40, .inl (fun _ => (0 : Int32)))), (q_10, .inl (cI, 40, .inl (fun _ => (0 : Int32)))), (q_11, .inl (cI, 40, .inl (fun _ => (0 : Int32)))), (q_12, .inl (cI, 40, .inl (fun _ => (0 : Int32))))] H locs := X
  refine W.widen (k := 12) (n := 334) (Nat.le_of_ble_eq_true rfl) (Nat.le_of_ble_eq_true rfl) ?_
  refine x_putF (own := RX3) (T := TX3) C X 0 rfl rfl 14 (by decide) k_5_20 rfl rfl rfl hin rfl (ty := (tyX3 14)) (v := .ref q_12) (by decide +kernel) rfl rfl (Nat.le_of_ble_eq_true rfl) dX3_init_109 (fun H locs X => ?_)
  have X : Wd D A s [(h0, .inr (3, [.int (0 : Int32), .ref q_1, .ref q_2, .ref q_3, .ref q_4, .ref q_5, .ref q_6, .ref q_7, .int (0 : Int32), .ref q_8, .ref q_9, .ref q_10, .int (0 : Int32), .ref q_11, .ref q_12, .null, .null, .int (0 : Int32), .null])), (q_1, .inl (cI, 4, .inl (fun _ => (0 : Int32)))), (q_2, .inl (cI, 4, .inl (fun _ => (0 : Int32)))), (q_3, .inl (cI, 3, .inl (fun _ => (0 : Int32)))), (q_4, .inl (cI, 21, .inl (fun _ => (0 : Int32)))), (q_5, .inl (cI, 21, .inl (fun _ => (0 : Int32)))), (q_6, .inl (cI, 40, .inl (fun _ => (0 : Int32)))), (q_7, .inl (cI, 41, .inl (fun _ => (0 : Int32)))), (q_8, .inl (cI, 40, .inl (fun _ => (0 : Int32)))), (q_9, .inl (cI, 40, .inl (fun _ => (0 : Int32)))), (q_10, .inl (cI, 40, .inl (fun _ => (0 : Int32)))), (q_11, .inl (cI, 40, .inl (fun _ => (0 : Int32)))), (q_12, .inl (cI, 40, .inl (fun _ => (0 : Int32))))] H locs := X
  refine lv_aload_n hx hb dX3_init_112 rfl (lv_at hl 0 rfl) ?_
  refine lv_bipush (v := (40 : Int32)) hx hb dX3_init_113 (by decide) ?_
  refine x_newa (own := RX3) (atype := .int) (ty := .int) (N' := 40) (a0 := (40, .inl (fun _ => (0 : Int32)))) C X rfl k_2_7 0 rfl rfl (fun _ => rfl) (by decide) (by decide) (Nat.le_of_ble_eq_true rfl) (Nat.le_of_ble_eq_true rfl) (Nat.le_of_ble_eq_true rfl) dX3_init_115 (fun q_13 H X => ?_)
  have X : Wd D A s [(h0, .inr (3, [.int (0 : Int32), .ref q_1, .ref q_2, .ref q_3, .ref q_4, .ref q_5, .ref q_6, .ref q_7, .int (0 : Int32), .ref q_8, .ref q_9, .ref q_10, .int (0 : Int32), .ref q_11, .ref q_12, .null, .null, .int (0 : Int32), .null])), (q_1, .inl (cI, 4, .inl (fun _ => (0 : Int32)))), (q_2, .inl (cI, 4, .inl (fun _ => (0 : Int32)))), (q_3, .inl (cI, 3, .inl (fun _ => (0 : Int32)))), (q_4, .inl (cI, 21, .inl (fun _ => (0 : Int32)))), (q_5, .inl (cI, 21, .inl (fun _ => (0 : Int32)))), (q_6, .inl (cI, 40, .inl (fun _ => (0 : Int32)))), (q_7, .inl (cI, 41, .inl (fun _ => (0 : Int32)))), (q_8, .inl (cI, 40, .inl (fun _ => (0 : Int32)))), (q_9, .inl (cI, 40, .inl (fun _ => (0 : Int32)))), (q_10, .inl (cI, 40, .inl (fun _ => (0 : Int32)))), (q_11, .inl (cI, 40, .inl (fun _ => (0 : Int32)))), (q_12, .inl (cI, 40, .inl (fun _ => (0 : Int32)))), (q_13, .inl (cI, 40, .inl (fun _ => (0 : Int32))))] H locs := X
  refine W.widen (k := 13) (n := 374) (Nat.le_of_ble_eq_true rfl) (Nat.le_of_ble_eq_true rfl) ?_
  refine x_putF (own := RX3) (T := TX3) C X 0 rfl rfl 15 (by decide) k_5_21 rfl rfl rfl hin rfl (ty := (tyX3 15)) (v := .ref q_13) (by decide +kernel) rfl rfl (Nat.le_of_ble_eq_true rfl) dX3_init_117 (fun H locs X => ?_)
  have X : Wd D A s [(h0, .inr (3, [.int (0 : Int32), .ref q_1, .ref q_2, .ref q_3, .ref q_4, .ref q_5, .ref q_6, .ref q_7, .int (0 : Int32), .ref q_8, .ref q_9, .ref q_10, .int (0 : Int32), .ref q_11, .ref q_12, .ref q_13, .null, .int (0 : Int32), .null])), (q_1, .inl (cI, 4, .inl (fun _ => (0 : Int32)))), (q_2, .inl (cI, 4, .inl (fun _ => (0 : Int32)))), (q_3, .inl (cI, 3, .inl (fun _ => (0 : Int32)))), (q_4, .inl (cI, 21, .inl (fun _ => (0 : Int32)))), (q_5, .inl (cI, 21, .inl (fun _ => (0 : Int32)))), (q_6, .inl (cI, 40, .inl (fun _ => (0 : Int32)))), (q_7, .inl (cI, 41, .inl (fun _ => (0 : Int32)))), (q_8, .inl (cI, 40, .inl (fun _ => (0 : Int32)))), (q_9, .inl (cI, 40, .inl (fun _ => (0 : Int32)))), (q_10, .inl (cI, 40, .inl (fun _ => (0 : Int32)))), (q_11, .inl (cI, 40, .inl (fun _ => (0 : Int32)))), (q_12, .inl (cI, 40, .inl (fun _ => (0 : Int32)))), (q_13, .inl (cI, 40, .inl (fun _ => (0 : Int32))))] H locs := X
  refine lv_aload_n hx hb dX3_init_120 rfl (lv_at hl 0 rfl) ?_
  refine lv_sipush (v := (700 : Int32)) hx hb dX3_init_121 (by decide) ?_
  refine x_newa (own := RX3) (atype := .int) (ty := .int) (N' := 700) (a0 := (700, .inl (fun _ => (0 : Int32)))) C X rfl k_2_7 0 rfl rfl (fun _ => rfl) (by decide) (by decide) (Nat.le_of_ble_eq_true rfl) (Nat.le_of_ble_eq_true rfl) (Nat.le_of_ble_eq_true rfl) dX3_init_124 (fun q_14 H X => ?_)
  have X : Wd D A s [(h0, .inr (3, [.int (0 : Int32), .ref q_1, .ref q_2, .ref q_3, .ref q_4, .ref q_5, .ref q_6, .ref q_7, .int (0 : Int32), .ref q_8, .ref q_9, .ref q_10, .int (0 : Int32), .ref q_11, .ref q_12, .ref q_13, .null, .int (0 : Int32), .null])), (q_1, .inl (cI, 4, .inl (fun _ => (0 : Int32)))), (q_2, .inl (cI, 4, .inl (fun _ => (0 : Int32)))), (q_3, .inl (cI, 3, .inl (fun _ => (0 : Int32)))), (q_4, .inl (cI, 21, .inl (fun _ => (0 : Int32)))), (q_5, .inl (cI, 21, .inl (fun _ => (0 : Int32)))), (q_6, .inl (cI, 40, .inl (fun _ => (0 : Int32)))), (q_7, .inl (cI, 41, .inl (fun _ => (0 : Int32)))), (q_8, .inl (cI, 40, .inl (fun _ => (0 : Int32)))), (q_9, .inl (cI, 40, .inl (fun _ => (0 : Int32)))), (q_10, .inl (cI, 40, .inl (fun _ => (0 : Int32)))), (q_11, .inl (cI, 40, .inl (fun _ => (0 : Int32)))), (q_12, .inl (cI, 40, .inl (fun _ => (0 : Int32)))), (q_13, .inl (cI, 40, .inl (fun _ => (0 : Int32)))), (q_14, .inl (cI, 700, .inl (fun _ => (0 : Int32))))] H locs := X
  refine W.widen (k := 14) (n := 1074) (Nat.le_of_ble_eq_true rfl) (Nat.le_of_ble_eq_true rfl) ?_
  refine x_putF (own := RX3) (T := TX3) C X 0 rfl rfl 16 (by decide) k_5_22 rfl rfl rfl hin rfl (ty := (tyX3 16)) (v := .ref q_14) (by decide +kernel) rfl rfl (Nat.le_of_ble_eq_true rfl) dX3_init_126 (fun H locs X => ?_)
  have X : Wd D A s [(h0, .inr (3, [.int (0 : Int32), .ref q_1, .ref q_2, .ref q_3, .ref q_4, .ref q_5, .ref q_6, .ref q_7, .int (0 : Int32), .ref q_8, .ref q_9, .ref q_10, .int (0 : Int32), .ref q_11, .ref q_12, .ref q_13, .ref q_14, .int (0 : Int32), .null])), (q_1, .inl (cI, 4, .inl (fun _ => (0 : Int32)))), (q_2, .inl (cI, 4, .inl (fun _ => (0 : Int32)))), (q_3, .inl (cI, 3, .inl (fun _ => (0 : Int32)))), (q_4, .inl (cI, 21, .inl (fun _ => (0 : Int32)))), (q_5, .inl (cI, 21, .inl (fun _ => (0 : Int32)))), (q_6, .inl (cI, 40, .inl (fun _ => (0 : Int32)))), (q_7, .inl (cI, 41, .inl (fun _ => (0 : Int32)))), (q_8, .inl (cI, 40, .inl (fun _ => (0 : Int32)))), (q_9, .inl (cI, 40, .inl (fun _ => (0 : Int32)))), (q_10, .inl (cI, 40, .inl (fun _ => (0 : Int32)))), (q_11, .inl (cI, 40, .inl (fun _ => (0 : Int32)))), (q_12, .inl (cI, 40, .inl (fun _ => (0 : Int32)))), (q_13, .inl (cI, 40, .inl (fun _ => (0 : Int32)))), (q_14, .inl (cI, 700, .inl (fun _ => (0 : Int32))))] H locs := X
  refine lv_aload_n hx hb dX3_init_129 rfl (lv_at hl 0 rfl) ?_
  refine lv_iconst (v := (0 : Int32)) hx hb dX3_init_130 (by decide) ?_
  refine x_put (own := RX3) (T := TX3) C X 0 rfl rfl 17 (by decide) k_5_23 rfl rfl rfl (ty := .int) (v := .int (0 : Int32)) (by decide +kernel) rfl rfl (Nat.le_of_ble_eq_true rfl) dX3_init_131 (fun H locs X => ?_)
  have X : Wd D A s [(h0, .inr (3, [.int (0 : Int32), .ref q_1, .ref q_2, .ref q_3, .ref q_4, .ref q_5, .ref q_6, .ref q_7, .int (0 : Int32), .ref q_8, .ref q_9, .ref q_10, .int (0 : Int32), .ref q_11, .ref q_12, .ref q_13, .ref q_14, .int (0 : Int32), .null])), (q_1, .inl (cI, 4, .inl (fun _ => (0 : Int32)))), (q_2, .inl (cI, 4, .inl (fun _ => (0 : Int32)))), (q_3, .inl (cI, 3, .inl (fun _ => (0 : Int32)))), (q_4, .inl (cI, 21, .inl (fun _ => (0 : Int32)))), (q_5, .inl (cI, 21, .inl (fun _ => (0 : Int32)))), (q_6, .inl (cI, 40, .inl (fun _ => (0 : Int32)))), (q_7, .inl (cI, 41, .inl (fun _ => (0 : Int32)))), (q_8, .inl (cI, 40, .inl (fun _ => (0 : Int32)))), (q_9, .inl (cI, 40, .inl (fun _ => (0 : Int32)))), (q_10, .inl (cI, 40, .inl (fun _ => (0 : Int32)))), (q_11, .inl (cI, 40, .inl (fun _ => (0 : Int32)))), (q_12, .inl (cI, 40, .inl (fun _ => (0 : Int32)))), (q_13, .inl (cI, 40, .inl (fun _ => (0 : Int32)))), (q_14, .inl (cI, 700, .inl (fun _ => (0 : Int32))))] H locs := X
  refine lv_aload_n hx hb dX3_init_134 rfl (lv_at hl 0 rfl) ?_
  refine lv_bipush (v := (64 : Int32)) hx hb dX3_init_135 (by decide) ?_
  refine x_newa (own := RX3) (atype := .boolean) (ty := .boolean) (N' := 64) (a0 := (64, .inl (fun _ => (0 : Int32)))) C X rfl k_6_0 2 rfl rfl (fun _ => rfl) (by decide) (by decide) (Nat.le_of_ble_eq_true rfl) (Nat.le_of_ble_eq_true rfl) (Nat.le_of_ble_eq_true rfl) dX3_init_137 (fun q_15 H X => ?_)
  have X : Wd D A s [(h0, .inr (3, [.int (0 : Int32), .ref q_1, .ref q_2, .ref q_3, .ref q_4, .ref q_5, .ref q_6, .ref q_7, .int (0 : Int32), .ref q_8, .ref q_9, .ref q_10, .int (0 : Int32), .ref q_11, .ref q_12, .ref q_13, .ref q_14, .int (0 : Int32), .null])), (q_1, .inl (cI, 4, .inl (fun _ => (0 : Int32)))), (q_2, .inl (cI, 4, .inl (fun _ => (0 : Int32)))), (q_3, .inl (cI, 3, .inl (fun _ => (0 : Int32)))), (q_4, .inl (cI, 21, .inl (fun _ => (0 : Int32)))), (q_5, .inl (cI, 21, .inl (fun _ => (0 : Int32)))), (q_6, .inl (cI, 40, .inl (fun _ => (0 : Int32)))), (q_7, .inl (cI, 41, .inl (fun _ => (0 : Int32)))), (q_8, .inl (cI, 40, .inl (fun _ => (0 : Int32)))), (q_9, .inl (cI, 40, .inl (fun _ => (0 : Int32)))), (q_10, .inl (cI, 40, .inl (fun _ => (0 : Int32)))), (q_11, .inl (cI, 40, .inl (fun _ => (0 : Int32)))), (q_12, .inl (cI, 40, .inl (fun _ => (0 : Int32)))), (q_13, .inl (cI, 40, .inl (fun _ => (0 : Int32)))), (q_14, .inl (cI, 700, .inl (fun _ => (0 : Int32)))), (q_15, .inl (cZ, 64, .inl (fun _ => (0 : Int32))))] H locs := X
  refine W.widen (k := 15) (n := 1138) (Nat.le_of_ble_eq_true rfl) (Nat.le_of_ble_eq_true rfl) ?_
  refine x_putF (own := RX3) (T := TX3) C X 0 rfl rfl 18 (by decide) k_6_1 rfl rfl rfl hin rfl (ty := (tyX3 18)) (v := .ref q_15) (by decide +kernel) rfl rfl (Nat.le_of_ble_eq_true rfl) dX3_init_139 (fun H locs X => ?_)
  have X : Wd D A s [(h0, .inr (3, [.int (0 : Int32), .ref q_1, .ref q_2, .ref q_3, .ref q_4, .ref q_5, .ref q_6, .ref q_7, .int (0 : Int32), .ref q_8, .ref q_9, .ref q_10, .int (0 : Int32), .ref q_11, .ref q_12, .ref q_13, .ref q_14, .int (0 : Int32), .ref q_15])), (q_1, .inl (cI, 4, .inl (fun _ => (0 : Int32)))), (q_2, .inl (cI, 4, .inl (fun _ => (0 : Int32)))), (q_3, .inl (cI, 3, .inl (fun _ => (0 : Int32)))), (q_4, .inl (cI, 21, .inl (fun _ => (0 : Int32)))), (q_5, .inl (cI, 21, .inl (fun _ => (0 : Int32)))), (q_6, .inl (cI, 40, .inl (fun _ => (0 : Int32)))), (q_7, .inl (cI, 41, .inl (fun _ => (0 : Int32)))), (q_8, .inl (cI, 40, .inl (fun _ => (0 : Int32)))), (q_9, .inl (cI, 40, .inl (fun _ => (0 : Int32)))), (q_10, .inl (cI, 40, .inl (fun _ => (0 : Int32)))), (q_11, .inl (cI, 40, .inl (fun _ => (0 : Int32)))), (q_12, .inl (cI, 40, .inl (fun _ => (0 : Int32)))), (q_13, .inl (cI, 40, .inl (fun _ => (0 : Int32)))), (q_14, .inl (cI, 700, .inl (fun _ => (0 : Int32)))), (q_15, .inl (cZ, 64, .inl (fun _ => (0 : Int32))))] H locs := X
  refine lv_aload_n hx hb dX3_init_142 rfl (lv_at hl 0 rfl) ?_
  refine x_get (own := RX3) (T := TX3) C X 0 rfl rfl 6 (by decide) k_5_12 rfl rfl (v := .ref q_6) rfl dX3_init_143 ?_
  refine lv_iconst (v := (-1 : Int32)) hx hb dX3_init_146 (by decide) ?_
  refine x_cSv (own := RX3) (wr := [(h0, .inr (3, [.int (0 : Int32), .ref q_1, .ref q_2, .ref q_3, .ref q_4, .ref q_5, .ref q_6, .ref q_7, .int (0 : Int32), .ref q_8, .ref q_9, .ref q_10, .int (0 : Int32), .ref q_11, .ref q_12, .ref q_13, .ref q_14, .int (0 : Int32), .ref q_15])), (q_1, .inl (cI, 4, .inl (fun _ => (0 : Int32)))), (q_2, .inl (cI, 4, .inl (fun _ => (0 : Int32)))), (q_3, .inl (cI, 3, .inl (fun _ => (0 : Int32)))), (q_4, .inl (cI, 21, .inl (fun _ => (0 : Int32)))), (q_5, .inl (cI, 21, .inl (fun _ => (0 : Int32)))), (q_7, .inl (cI, 41, .inl (fun _ => (0 : Int32)))), (q_8, .inl (cI, 40, .inl (fun _ => (0 : Int32)))), (q_9, .inl (cI, 40, .inl (fun _ => (0 : Int32)))), (q_10, .inl (cI, 40, .inl (fun _ => (0 : Int32)))), (q_11, .inl (cI, 40, .inl (fun _ => (0 : Int32)))), (q_12, .inl (cI, 40, .inl (fun _ => (0 : Int32)))), (q_13, .inl (cI, 40, .inl (fun _ => (0 : Int32)))), (q_14, .inl (cI, 700, .inl (fun _ => (0 : Int32)))), (q_15, .inl (cZ, 64, .inl (fun _ => (0 : Int32))))]) (As := [.ref q_6, .int (-1 : Int32)]) C X hl.1 (c_fillI l D cI cJ cZ cB cO q_6 40 (fun _ => (0 : Int32)) (-1 : Int32) (by omega)) [6] [0, 1, 2, 3, 4, 5, 7, 8, 9, 10, 11, 12, 13, 14, 15] ⟨rfl, rfl, by decide, by decide, by decide⟩ k_6_2 k_4_6 k_4_7 k_4_8 (n := 2) (by decide +kernel) ⟨Nat.le_of_ble_eq_true rfl, Nat.le_of_ble_eq_true rfl⟩ rfl rfl (Nat.le_of_ble_eq_true rfl) dX3_init_147 ⟨Nat.le_of_ble_eq_true rfl, Nat.le_of_ble_eq_true rfl⟩ (fun u_16 H locs w_18 X => ?_)
  have X : Wd D A s [(h0, .inr (3, [.int (0 : Int32), .ref q_1, .ref q_2, .ref q_3, .ref q_4, .ref q_5, .ref q_6, .ref q_7, .int (0 : Int32), .ref q_8, .ref q_9, .ref q_10, .int (0 : Int32), .ref q_11, .ref q_12, .ref q_13, .ref q_14, .int (0 : Int32), .ref q_15])), (q_1, .inl (cI, 4, .inl (fun _ => (0 : Int32)))), (q_2, .inl (cI, 4, .inl (fun _ => (0 : Int32)))), (q_3, .inl (cI, 3, .inl (fun _ => (0 : Int32)))), (q_4, .inl (cI, 21, .inl (fun _ => (0 : Int32)))), (q_5, .inl (cI, 21, .inl (fun _ => (0 : Int32)))), (q_7, .inl (cI, 41, .inl (fun _ => (0 : Int32)))), (q_8, .inl (cI, 40, .inl (fun _ => (0 : Int32)))), (q_9, .inl (cI, 40, .inl (fun _ => (0 : Int32)))), (q_10, .inl (cI, 40, .inl (fun _ => (0 : Int32)))), (q_11, .inl (cI, 40, .inl (fun _ => (0 : Int32)))), (q_12, .inl (cI, 40, .inl (fun _ => (0 : Int32)))), (q_13, .inl (cI, 40, .inl (fun _ => (0 : Int32)))), (q_14, .inl (cI, 700, .inl (fun _ => (0 : Int32)))), (q_15, .inl (cZ, 64, .inl (fun _ => (0 : Int32)))), (q_6, .inl (cI, 40, .inl (fun _ => (-1 : Int32))))] H locs := X
  refine W.widen (k := 15) (n := 1138) (Nat.le_of_ble_eq_true rfl) (Nat.le_of_ble_eq_true rfl) ?_
  refine lv_aload_n hx hb dX3_init_150 rfl (lv_at hl 0 rfl) ?_
  refine x_get (own := RX3) (T := TX3) C X 0 rfl rfl 7 (by decide) k_5_13 rfl rfl (v := .ref q_7) rfl dX3_init_151 ?_
  refine lv_iconst (v := (1 : Int32)) hx hb dX3_init_154 (by decide) ?_
  refine x_cSv (own := RX3) (wr := [(h0, .inr (3, [.int (0 : Int32), .ref q_1, .ref q_2, .ref q_3, .ref q_4, .ref q_5, .ref q_6, .ref q_7, .int (0 : Int32), .ref q_8, .ref q_9, .ref q_10, .int (0 : Int32), .ref q_11, .ref q_12, .ref q_13, .ref q_14, .int (0 : Int32), .ref q_15])), (q_1, .inl (cI, 4, .inl (fun _ => (0 : Int32)))), (q_2, .inl (cI, 4, .inl (fun _ => (0 : Int32)))), (q_3, .inl (cI, 3, .inl (fun _ => (0 : Int32)))), (q_4, .inl (cI, 21, .inl (fun _ => (0 : Int32)))), (q_5, .inl (cI, 21, .inl (fun _ => (0 : Int32)))), (q_8, .inl (cI, 40, .inl (fun _ => (0 : Int32)))), (q_9, .inl (cI, 40, .inl (fun _ => (0 : Int32)))), (q_10, .inl (cI, 40, .inl (fun _ => (0 : Int32)))), (q_11, .inl (cI, 40, .inl (fun _ => (0 : Int32)))), (q_12, .inl (cI, 40, .inl (fun _ => (0 : Int32)))), (q_13, .inl (cI, 40, .inl (fun _ => (0 : Int32)))), (q_14, .inl (cI, 700, .inl (fun _ => (0 : Int32)))), (q_15, .inl (cZ, 64, .inl (fun _ => (0 : Int32)))), (q_6, .inl (cI, 40, .inl (fun _ => (-1 : Int32))))]) (As := [.ref q_7, .int (1 : Int32)]) C X hl.1 (c_fillI l D cI cJ cZ cB cO q_7 41 (fun _ => (0 : Int32)) (1 : Int32) (by omega)) [6] [0, 1, 2, 3, 4, 5, 7, 8, 9, 10, 11, 12, 13, 14, 15] ⟨rfl, rfl, by decide, by decide, by decide⟩ k_6_2 k_4_6 k_4_7 k_4_8 (n := 2) (by decide +kernel) ⟨Nat.le_of_ble_eq_true rfl, Nat.le_of_ble_eq_true rfl⟩ rfl rfl (Nat.le_of_ble_eq_true rfl) dX3_init_155 ⟨Nat.le_of_ble_eq_true rfl, Nat.le_of_ble_eq_true rfl⟩ (fun u_19 H locs w_21 X => ?_)
  have X : Wd D A s [(h0, .inr (3, [.int (0 : Int32), .ref q_1, .ref q_2, .ref q_3, .ref q_4, .ref q_5, .ref q_6, .ref q_7, .int (0 : Int32), .ref q_8, .ref q_9, .ref q_10, .int (0 : Int32), .ref q_11, .ref q_12, .ref q_13, .ref q_14, .int (0 : Int32), .ref q_15])), (q_1, .inl (cI, 4, .inl (fun _ => (0 : Int32)))), (q_2, .inl (cI, 4, .inl (fun _ => (0 : Int32)))), (q_3, .inl (cI, 3, .inl (fun _ => (0 : Int32)))), (q_4, .inl (cI, 21, .inl (fun _ => (0 : Int32)))), (q_5, .inl (cI, 21, .inl (fun _ => (0 : Int32)))), (q_8, .inl (cI, 40, .inl (fun _ => (0 : Int32)))), (q_9, .inl (cI, 40, .inl (fun _ => (0 : Int32)))), (q_10, .inl (cI, 40, .inl (fun _ => (0 : Int32)))), (q_11, .inl (cI, 40, .inl (fun _ => (0 : Int32)))), (q_12, .inl (cI, 40, .inl (fun _ => (0 : Int32)))), (q_13, .inl (cI, 40, .inl (fun _ => (0 : Int32)))), (q_14, .inl (cI, 700, .inl (fun _ => (0 : Int32)))), (q_15, .inl (cZ, 64, .inl (fun _ => (0 : Int32)))), (q_6, .inl (cI, 40, .inl (fun _ => (-1 : Int32)))), (q_7, .inl (cI, 41, .inl (fun _ => (1 : Int32))))] H locs := X
  refine W.widen (k := 15) (n := 1138) (Nat.le_of_ble_eq_true rfl) (Nat.le_of_ble_eq_true rfl) ?_
  exact x_vret C X hr hlk (fun k => ([h0, q_1, q_2, q_3, q_4, q_5, q_6, q_7, q_8, q_9, q_10, q_11, q_12, q_13, q_14, q_15] : List Nat).getD k 0) [0, 1, 2, 3, 4, 5, 14, 15, 6, 7, 8, 9, 10, 11, 12, 13] (by decide) rfl (trivial) (Nat.le_of_ble_eq_true rfl) (Nat.le_of_ble_eq_true rfl) dX3_init_158
set_option maxHeartbeats 4000000 in
set_option maxRecDepth 100000 in
theorem c_Rank_init (l : Launch) (D : va_G) (cI cJ cZ cB : ClassId) (cO : ClassId) (h0 : Nat) :
    CV l D [(cI, .int), (cJ, .long), (cZ, .boolean), (cB, .byte), (cO, .object "LuckLinks$World")] yX5_init cX5_init 1 ({ frames := 1, cells := 2, slots := 40, locals := 20 } : Room) [.ref h0] [(h0, .inr (5, [.null, .null, .int (0 : Int32)]))] (fun (u : (Nat → Nat)) => match u with | u => (True)) (fun (u : (Nat → Nat)) => match u with | u => [(h0, .inr (5, [.ref (u 1), .ref (u 2), .int (0 : Int32)])), ((u 1), .inl (cI, 20, .inl (fun _ => (0 : Int32)))), ((u 2), .inl (cI, 20, .inl (fun _ => (0 : Int32))))]) := by
  intro sz
  refine body_of (y := yX5_init) (cc := cX5_init) (maxL := 1) (ret := none) (rm := ({ frames := 1, cells := 2, slots := 40, locals := 20 } : Room)) (wc := [(h0, .inr (5, [.null, .null, .int (0 : Int32)]))]) (tys := [(cI, .int), (cJ, .long), (cZ, .boolean), (cB, .byte), (cO, .object "LuckLinks$World")]) (D := D) (sz := sz) (own := RX5) (av := [.ref h0]) (Qc := fun A => va_Qv (fun (u : (Nat → Nat)) => match u with | u => (True)) (fun u t => Aft D A ((fun (u : (Nat → Nat)) => match u with | u => [(h0, .inr (5, [.ref (u 1), .ref (u 2), .int (0 : Int32)])), ((u 1), .inl (cI, 20, .inl (fun _ => (0 : Int32)))), ((u 2), .inl (cI, 20, .inl (fun _ => (0 : Int32))))]) u) t) A) (by decide) rfl (Nat.le_of_ble_eq_true rfl) (fun p e s m below meth c A ls C hr hlk hin X hl => ?_)
  have hx := C.1
  have hb := C.2.1
  have hown := C.2.2.2.1
  have hts := C.2.2.2.2.1
  have hl : lv_has ls 1 [(0, .ref h0)] := hl
  show W p l e _ s m _ below meth c s.heap [] 0 0 (MQ below (va_Qv (fun (u : (Nat → Nat)) => match u with | u => (True)) (fun u t => Aft D A ((fun (u : (Nat → Nat)) => match u with | u => [(h0, .inr (5, [.ref (u 1), .ref (u 2), .int (0 : Int32)])), ((u 1), .inl (cI, 20, .inl (fun _ => (0 : Int32)))), ((u 2), .inl (cI, 20, .inl (fun _ => (0 : Int32))))]) u) t) A) ([.ref h0] : List Value).toArray s 2 40 A) (F0 m 0 ls [])
  have X : Wd D A s [(h0, .inr (5, [.null, .null, .int (0 : Int32)]))] s.heap [] := X
  obtain ⟨H, locs, eH, eL⟩ : ∃ H locs, H = s.heap ∧ locs = ([] : List Loc) := ⟨_, _, rfl, rfl⟩
  rw [← eH, ← eL] at X ⊢
  clear eH eL
  refine lv_aload_n hx hb dX5_init_0 rfl (lv_at hl 0 rfl) ?_
  refine x_objInit (own := RX5) C hl.1 k_7_0 k_1_10 k_1_11 dX5_init_1 (Nat.le_of_ble_eq_true rfl) (Nat.le_of_ble_eq_true rfl) ?_
  refine lv_aload_n hx hb dX5_init_4 rfl (lv_at hl 0 rfl) ?_
  refine lv_bipush (v := (20 : Int32)) hx hb dX5_init_5 (by decide) ?_
  refine x_newa (own := RX5) (atype := .int) (ty := .int) (N' := 20) (a0 := (20, .inl (fun _ => (0 : Int32)))) C X rfl k_2_7 0 rfl rfl (fun _ => rfl) (by decide) (by decide) (Nat.le_of_ble_eq_true rfl) (Nat.le_of_ble_eq_true rfl) (Nat.le_of_ble_eq_true rfl) dX5_init_7 (fun q_1 H X => ?_)
  have X : Wd D A s [(h0, .inr (5, [.null, .null, .int (0 : Int32)])), (q_1, .inl (cI, 20, .inl (fun _ => (0 : Int32))))] H locs := X
  refine W.widen (k := 1) (n := 20) (Nat.le_of_ble_eq_true rfl) (Nat.le_of_ble_eq_true rfl) ?_
  refine x_putF (own := RX5) (T := TX5) C X 0 rfl rfl 0 (by decide) k_7_1 rfl rfl rfl hin rfl (ty := (tyX5 0)) (v := .ref q_1) (by decide +kernel) rfl rfl (Nat.le_of_ble_eq_true rfl) dX5_init_9 (fun H locs X => ?_)
  have X : Wd D A s [(h0, .inr (5, [.ref q_1, .null, .int (0 : Int32)])), (q_1, .inl (cI, 20, .inl (fun _ => (0 : Int32))))] H locs := X
  refine lv_aload_n hx hb dX5_init_12 rfl (lv_at hl 0 rfl) ?_
  refine lv_bipush (v := (20 : Int32)) hx hb dX5_init_13 (by decide) ?_
  refine x_newa (own := RX5) (atype := .int) (ty := .int) (N' := 20) (a0 := (20, .inl (fun _ => (0 : Int32)))) C X rfl k_2_7 0 rfl rfl (fun _ => rfl) (by decide) (by decide) (Nat.le_of_ble_eq_true rfl) (Nat.le_of_ble_eq_true rfl) (Nat.le_of_ble_eq_true rfl) dX5_init_15 (fun q_2 H X => ?_)
  have X : Wd D A s [(h0, .inr (5, [.ref q_1, .null, .int (0 : Int32)])), (q_1, .inl (cI, 20, .inl (fun _ => (0 : Int32)))), (q_2, .inl (cI, 20, .inl (fun _ => (0 : Int32))))] H locs := X
  refine W.widen (k := 2) (n := 40) (Nat.le_of_ble_eq_true rfl) (Nat.le_of_ble_eq_true rfl) ?_
  refine x_putF (own := RX5) (T := TX5) C X 0 rfl rfl 1 (by decide) k_7_2 rfl rfl rfl hin rfl (ty := (tyX5 1)) (v := .ref q_2) (by decide +kernel) rfl rfl (Nat.le_of_ble_eq_true rfl) dX5_init_17 (fun H locs X => ?_)
  have X : Wd D A s [(h0, .inr (5, [.ref q_1, .ref q_2, .int (0 : Int32)])), (q_1, .inl (cI, 20, .inl (fun _ => (0 : Int32)))), (q_2, .inl (cI, 20, .inl (fun _ => (0 : Int32))))] H locs := X
  refine lv_aload_n hx hb dX5_init_20 rfl (lv_at hl 0 rfl) ?_
  refine lv_iconst (v := (0 : Int32)) hx hb dX5_init_21 (by decide) ?_
  refine x_put (own := RX5) (T := TX5) C X 0 rfl rfl 2 (by decide) k_7_3 rfl rfl rfl (ty := .int) (v := .int (0 : Int32)) (by decide +kernel) rfl rfl (Nat.le_of_ble_eq_true rfl) dX5_init_22 (fun H locs X => ?_)
  have X : Wd D A s [(h0, .inr (5, [.ref q_1, .ref q_2, .int (0 : Int32)])), (q_1, .inl (cI, 20, .inl (fun _ => (0 : Int32)))), (q_2, .inl (cI, 20, .inl (fun _ => (0 : Int32))))] H locs := X
  exact x_vret C X hr hlk (fun k => ([h0, q_1, q_2] : List Nat).getD k 0) [0, 1, 2] (by decide) rfl (trivial) (Nat.le_of_ble_eq_true rfl) (Nat.le_of_ble_eq_true rfl) dX5_init_25
set_option maxHeartbeats 4000000 in
set_option maxRecDepth 100000 in
theorem c_Ratio_init (l : Launch) (D : va_G) (cI cJ cZ cB : ClassId) (cO : ClassId) (h0 : Nat) :
    CV l D [(cI, .int), (cJ, .long), (cZ, .boolean), (cB, .byte), (cO, .object "LuckLinks$World")] yX6_init cX6_init 1 ({ frames := 1, cells := 0, slots := 0, locals := 20 } : Room) [.ref h0] [(h0, .inr (6, [.long (0 : Int64), .long (0 : Int64)]))] (fun (u : (Nat → Nat)) => match u with | u => (True)) (fun (u : (Nat → Nat)) => match u with | u => [(h0, .inr (6, [.long (0 : Int64), .long (0 : Int64)]))]) := by
  intro sz
  refine body_of (y := yX6_init) (cc := cX6_init) (maxL := 1) (ret := none) (rm := ({ frames := 1, cells := 0, slots := 0, locals := 20 } : Room)) (wc := [(h0, .inr (6, [.long (0 : Int64), .long (0 : Int64)]))]) (tys := [(cI, .int), (cJ, .long), (cZ, .boolean), (cB, .byte), (cO, .object "LuckLinks$World")]) (D := D) (sz := sz) (own := RX6) (av := [.ref h0]) (Qc := fun A => va_Qv (fun (u : (Nat → Nat)) => match u with | u => (True)) (fun u t => Aft D A ((fun (u : (Nat → Nat)) => match u with | u => [(h0, .inr (6, [.long (0 : Int64), .long (0 : Int64)]))]) u) t) A) (by decide) rfl (Nat.le_of_ble_eq_true rfl) (fun p e s m below meth c A ls C hr hlk hin X hl => ?_)
  have hx := C.1
  have hb := C.2.1
  have hown := C.2.2.2.1
  have hts := C.2.2.2.2.1
  have hl : lv_has ls 1 [(0, .ref h0)] := hl
  show W p l e _ s m _ below meth c s.heap [] 0 0 (MQ below (va_Qv (fun (u : (Nat → Nat)) => match u with | u => (True)) (fun u t => Aft D A ((fun (u : (Nat → Nat)) => match u with | u => [(h0, .inr (6, [.long (0 : Int64), .long (0 : Int64)]))]) u) t) A) ([.ref h0] : List Value).toArray s 0 0 A) (F0 m 0 ls [])
  have X : Wd D A s [(h0, .inr (6, [.long (0 : Int64), .long (0 : Int64)]))] s.heap [] := X
  obtain ⟨H, locs, eH, eL⟩ : ∃ H locs, H = s.heap ∧ locs = ([] : List Loc) := ⟨_, _, rfl, rfl⟩
  rw [← eH, ← eL] at X ⊢
  clear eH eL
  refine lv_aload_n hx hb dX6_init_0 rfl (lv_at hl 0 rfl) ?_
  refine x_objInit (own := RX6) C hl.1 k_6_7 k_1_10 k_1_11 dX6_init_1 (Nat.le_of_ble_eq_true rfl) (Nat.le_of_ble_eq_true rfl) ?_
  refine lv_aload_n hx hb dX6_init_4 rfl (lv_at hl 0 rfl) ?_
  refine lv_lconst (v := (0 : Int64)) hx hb dX6_init_5 (by decide) ?_
  refine x_put (own := RX6) (T := TX6) C X 0 rfl rfl 0 (by decide) k_6_8 rfl rfl rfl (ty := .long) (v := .long (0 : Int64)) (by decide +kernel) rfl rfl (Nat.le_of_ble_eq_true rfl) dX6_init_6 (fun H locs X => ?_)
  have X : Wd D A s [(h0, .inr (6, [.long (0 : Int64), .long (0 : Int64)]))] H locs := X
  refine lv_aload_n hx hb dX6_init_9 rfl (lv_at hl 0 rfl) ?_
  refine lv_lconst (v := (0 : Int64)) hx hb dX6_init_10 (by decide) ?_
  refine x_put (own := RX6) (T := TX6) C X 0 rfl rfl 1 (by decide) k_6_9 rfl rfl rfl (ty := .long) (v := .long (0 : Int64)) (by decide +kernel) rfl rfl (Nat.le_of_ble_eq_true rfl) dX6_init_11 (fun H locs X => ?_)
  have X : Wd D A s [(h0, .inr (6, [.long (0 : Int64), .long (0 : Int64)]))] H locs := X
  exact x_vret C X hr hlk (fun k => ([h0] : List Nat).getD k 0) [0] (by decide) rfl (trivial) (Nat.le_of_ble_eq_true rfl) (Nat.le_of_ble_eq_true rfl) dX6_init_14
set_option maxHeartbeats 4000000 in
set_option maxRecDepth 100000 in
theorem c_Reader_init (l : Launch) (D : va_G) (cI cJ cZ cB : ClassId) (cO : ClassId) (h0 : Nat) :
    CV l D [(cI, .int), (cJ, .long), (cZ, .boolean), (cB, .byte), (cO, .object "LuckLinks$World")] yX4_init cX4_init 1 ({ frames := 2, cells := 21, slots := 3324, locals := 43 } : Room) [.ref h0] [(h0, .inr (4, [.null, .null, .null, .null, .null, .int (0 : Int32), .int (0 : Int32), .int (0 : Int32), .null, .int (0 : Int32), .int (0 : Int32), .int (0 : Int32)]))] (fun (u : (Nat → Nat)) => match u with | u => (True)) (fun (u : (Nat → Nat)) => match u with | u => [(h0, .inr (4, [.ref (u 1), .ref (u 2), .ref (u 18), .ref (u 19), .ref (u 20), .int (0 : Int32), .int (0 : Int32), .int (0 : Int32), .ref (u 21), .int (0 : Int32), .int (0 : Int32), .int (0 : Int32)])), ((u 1), .inl (cB, 0, .inl (fun _ => (0 : Int32)))), ((u 2), .inr (3, [.int (0 : Int32), .ref (u 3), .ref (u 4), .ref (u 5), .ref (u 6), .ref (u 7), .ref (u 8), .ref (u 9), .int (0 : Int32), .ref (u 10), .ref (u 11), .ref (u 12), .int (0 : Int32), .ref (u 13), .ref (u 14), .ref (u 15), .ref (u 16), .int (0 : Int32), .ref (u 17)])), ((u 3), .inl (cI, 4, .inl (fun _ => (0 : Int32)))), ((u 4), .inl (cI, 4, .inl (fun _ => (0 : Int32)))), ((u 5), .inl (cI, 3, .inl (fun _ => (0 : Int32)))), ((u 6), .inl (cI, 21, .inl (fun _ => (0 : Int32)))), ((u 7), .inl (cI, 21, .inl (fun _ => (0 : Int32)))), ((u 8), .inl (cI, 40, .inl (fun _ => (-1 : Int32)))), ((u 9), .inl (cI, 41, .inl (fun _ => (1 : Int32)))), ((u 10), .inl (cI, 40, .inl (fun _ => (0 : Int32)))), ((u 11), .inl (cI, 40, .inl (fun _ => (0 : Int32)))), ((u 12), .inl (cI, 40, .inl (fun _ => (0 : Int32)))), ((u 13), .inl (cI, 40, .inl (fun _ => (0 : Int32)))), ((u 14), .inl (cI, 40, .inl (fun _ => (0 : Int32)))), ((u 15), .inl (cI, 40, .inl (fun _ => (0 : Int32)))), ((u 16), .inl (cI, 700, .inl (fun _ => (0 : Int32)))), ((u 17), .inl (cZ, 64, .inl (fun _ => (0 : Int32)))), ((u 18), .inl (cI, 701, .inl (fun _ => (0 : Int32)))), ((u 19), .inl (cI, 701, .inl (fun _ => (0 : Int32)))), ((u 20), .inl (cI, 701, .inl (fun _ => (0 : Int32)))), ((u 21), .inl (cI, 64, .inl (fun _ => (0 : Int32))))]) := by
  intro sz
  refine body_of (y := yX4_init) (cc := cX4_init) (maxL := 1) (ret := none) (rm := ({ frames := 2, cells := 21, slots := 3324, locals := 43 } : Room)) (wc := [(h0, .inr (4, [.null, .null, .null, .null, .null, .int (0 : Int32), .int (0 : Int32), .int (0 : Int32), .null, .int (0 : Int32), .int (0 : Int32), .int (0 : Int32)]))]) (tys := [(cI, .int), (cJ, .long), (cZ, .boolean), (cB, .byte), (cO, .object "LuckLinks$World")]) (D := D) (sz := sz) (own := RX4) (av := [.ref h0]) (Qc := fun A => va_Qv (fun (u : (Nat → Nat)) => match u with | u => (True)) (fun u t => Aft D A ((fun (u : (Nat → Nat)) => match u with | u => [(h0, .inr (4, [.ref (u 1), .ref (u 2), .ref (u 18), .ref (u 19), .ref (u 20), .int (0 : Int32), .int (0 : Int32), .int (0 : Int32), .ref (u 21), .int (0 : Int32), .int (0 : Int32), .int (0 : Int32)])), ((u 1), .inl (cB, 0, .inl (fun _ => (0 : Int32)))), ((u 2), .inr (3, [.int (0 : Int32), .ref (u 3), .ref (u 4), .ref (u 5), .ref (u 6), .ref (u 7), .ref (u 8), .ref (u 9), .int (0 : Int32), .ref (u 10), .ref (u 11), .ref (u 12), .int (0 : Int32), .ref (u 13), .ref (u 14), .ref (u 15), .ref (u 16), .int (0 : Int32), .ref (u 17)])), ((u 3), .inl (cI, 4, .inl (fun _ => (0 : Int32)))), ((u 4), .inl (cI, 4, .inl (fun _ => (0 : Int32)))), ((u 5), .inl (cI, 3, .inl (fun _ => (0 : Int32)))), ((u 6), .inl (cI, 21, .inl (fun _ => (0 : Int32)))), ((u 7), .inl (cI, 21, .inl (fun _ => (0 : Int32)))), ((u 8), .inl (cI, 40, .inl (fun _ => (-1 : Int32)))), ((u 9), .inl (cI, 41, .inl (fun _ => (1 : Int32)))), ((u 10), .inl (cI, 40, .inl (fun _ => (0 : Int32)))), ((u 11), .inl (cI, 40, .inl (fun _ => (0 : Int32)))), ((u 12), .inl (cI, 40, .inl (fun _ => (0 : Int32)))), ((u 13), .inl (cI, 40, .inl (fun _ => (0 : Int32)))), ((u 14), .inl (cI, 40, .inl (fun _ => (0 : Int32)))), ((u 15), .inl (cI, 40, .inl (fun _ => (0 : Int32)))), ((u 16), .inl (cI, 700, .inl (fun _ => (0 : Int32)))), ((u 17), .inl (cZ, 64, .inl (fun _ => (0 : Int32)))), ((u 18), .inl (cI, 701, .inl (fun _ => (0 : Int32)))), ((u 19), .inl (cI, 701, .inl (fun _ => (0 : Int32)))), ((u 20), .inl (cI, 701, .inl (fun _ => (0 : Int32)))), ((u 21), .inl (cI, 64, .inl (fun _ => (0 : Int32))))]) u) t) A) (by decide) rfl (Nat.le_of_ble_eq_true rfl) (fun p e s m below meth c A ls C hr hlk hin X hl => ?_)
  have hx := C.1
  have hb := C.2.1
  have hown := C.2.2.2.1
  have hts := C.2.2.2.2.1
  have hl : lv_has ls 1 [(0, .ref h0)] := hl
  show W p l e _ s m _ below meth c s.heap [] 0 0 (MQ below (va_Qv (fun (u : (Nat → Nat)) => match u with | u => (True)) (fun u t => Aft D A ((fun (u : (Nat → Nat)) => match u with | u => [(h0, .inr (4, [.ref (u 1), .ref (u 2), .ref (u 18), .ref (u 19), .ref (u 20), .int (0 : Int32), .int (0 : Int32), .int (0 : Int32), .ref (u 21), .int (0 : Int32), .int (0 : Int32), .int (0 : Int32)])), ((u 1), .inl (cB, 0, .inl (fun _ => (0 : Int32)))), ((u 2), .inr (3, [.int (0 : Int32), .ref (u 3), .ref (u 4), .ref (u 5), .ref (u 6), .ref (u 7), .ref (u 8), .ref (u 9), .int (0 : Int32), .ref (u 10), .ref (u 11), .ref (u 12), .int (0 : Int32), .ref (u 13), .ref (u 14), .ref (u 15), .ref (u 16), .int (0 : Int32), .ref (u 17)])), ((u 3), .inl (cI, 4, .inl (fun _ => (0 : Int32)))), ((u 4), .inl (cI, 4, .inl (fun _ => (0 : Int32)))), ((u 5), .inl (cI, 3, .inl (fun _ => (0 : Int32)))), ((u 6), .inl (cI, 21, .inl (fun _ => (0 : Int32)))), ((u 7), .inl (cI, 21, .inl (fun _ => (0 : Int32)))), ((u 8), .inl (cI, 40, .inl (fun _ => (-1 : Int32)))), ((u 9), .inl (cI, 41, .inl (fun _ => (1 : Int32)))), ((u 10), .inl (cI, 40, .inl (fun _ => (0 : Int32)))), ((u 11), .inl (cI, 40, .inl (fun _ => (0 : Int32)))), ((u 12), .inl (cI, 40, .inl (fun _ => (0 : Int32)))), ((u 13), .inl (cI, 40, .inl (fun _ => (0 : Int32)))), ((u 14), .inl (cI, 40, .inl (fun _ => (0 : Int32)))), ((u 15), .inl (cI, 40, .inl (fun _ => (0 : Int32)))), ((u 16), .inl (cI, 700, .inl (fun _ => (0 : Int32)))), ((u 17), .inl (cZ, 64, .inl (fun _ => (0 : Int32)))), ((u 18), .inl (cI, 701, .inl (fun _ => (0 : Int32)))), ((u 19), .inl (cI, 701, .inl (fun _ => (0 : Int32)))), ((u 20), .inl (cI, 701, .inl (fun _ => (0 : Int32)))), ((u 21), .inl (cI, 64, .inl (fun _ => (0 : Int32))))]) u) t) A) ([.ref h0] : List Value).toArray s 21 3324 A) (F0 m 0 ls [])
  have X : Wd D A s [(h0, .inr (4, [.null, .null, .null, .null, .null, .int (0 : Int32), .int (0 : Int32), .int (0 : Int32), .null, .int (0 : Int32), .int (0 : Int32), .int (0 : Int32)]))] s.heap [] := X
  obtain ⟨H, locs, eH, eL⟩ : ∃ H locs, H = s.heap ∧ locs = ([] : List Loc) := ⟨_, _, rfl, rfl⟩
  rw [← eH, ← eL] at X ⊢
  clear eH eL
  refine lv_aload_n hx hb dX4_init_0 rfl (lv_at hl 0 rfl) ?_
  refine x_objInit (own := RX4) C hl.1 k_4_12 k_1_10 k_1_11 dX4_init_1 (Nat.le_of_ble_eq_true rfl) (Nat.le_of_ble_eq_true rfl) ?_
  refine lv_aload_n hx hb dX4_init_4 rfl (lv_at hl 0 rfl) ?_
  refine lv_iconst (v := (0 : Int32)) hx hb dX4_init_5 (by decide) ?_
  refine x_newa (own := RX4) (atype := .byte) (ty := .byte) (N' := 0) (a0 := (0, .inl (fun _ => (0 : Int32)))) C X rfl k_1_18 3 rfl rfl (fun _ => rfl) (by decide) (by decide) (Nat.le_of_ble_eq_true rfl) (Nat.le_of_ble_eq_true rfl) (Nat.le_of_ble_eq_true rfl) dX4_init_6 (fun q_1 H X => ?_)
  have X : Wd D A s [(h0, .inr (4, [.null, .null, .null, .null, .null, .int (0 : Int32), .int (0 : Int32), .int (0 : Int32), .null, .int (0 : Int32), .int (0 : Int32), .int (0 : Int32)])), (q_1, .inl (cB, 0, .inl (fun _ => (0 : Int32))))] H locs := X
  refine W.widen (k := 1) (n := 0) (Nat.le_of_ble_eq_true rfl) (Nat.le_of_ble_eq_true rfl) ?_
  refine x_put (own := RX4) (T := TX4) C X 0 rfl rfl 0 (by decide) k_4_13 rfl rfl rfl (ty := (tyX4 0)) (v := .ref q_1) (by decide +kernel) rfl rfl (Nat.le_of_ble_eq_true rfl) dX4_init_8 (fun H locs X => ?_)
  have X : Wd D A s [(h0, .inr (4, [.ref q_1, .null, .null, .null, .null, .int (0 : Int32), .int (0 : Int32), .int (0 : Int32), .null, .int (0 : Int32), .int (0 : Int32), .int (0 : Int32)])), (q_1, .inl (cB, 0, .inl (fun _ => (0 : Int32))))] H locs := X
  refine lv_aload_n hx hb dX4_init_11 rfl (lv_at hl 0 rfl) ?_
  refine x_new (own := RX4) (ci := 3) (fs := [.int (0 : Int32), .null, .null, .null, .null, .null, .null, .null, .int (0 : Int32), .null, .null, .null, .int (0 : Int32), .null, .null, .null, .null, .int (0 : Int32), .null]) C X rfl tyX3 tyX3_ok k_4_14 k_2_2 k_2_3 (fun j hj => by match j, hj with | 0, _ => rfl | 1, _ => rfl | 2, _ => rfl | 3, _ => rfl | 4, _ => rfl | 5, _ => rfl | 6, _ => rfl | 7, _ => rfl | 8, _ => rfl | 9, _ => rfl | 10, _ => rfl | 11, _ => rfl | 12, _ => rfl | 13, _ => rfl | 14, _ => rfl | 15, _ => rfl | 16, _ => rfl | 17, _ => rfl | 18, _ => rfl | j + 19, h => exact absurd h (by omega)) (Nat.le_of_ble_eq_true rfl) (Nat.le_of_ble_eq_true rfl) dX4_init_12 (fun q_2 H X => ?_)
  have X : Wd D A s [(h0, .inr (4, [.ref q_1, .null, .null, .null, .null, .int (0 : Int32), .int (0 : Int32), .int (0 : Int32), .null, .int (0 : Int32), .int (0 : Int32), .int (0 : Int32)])), (q_1, .inl (cB, 0, .inl (fun _ => (0 : Int32)))), (q_2, .inr (3, [.int (0 : Int32), .null, .null, .null, .null, .null, .null, .null, .int (0 : Int32), .null, .null, .null, .int (0 : Int32), .null, .null, .null, .null, .int (0 : Int32), .null]))] H locs := X
  refine W.widen (k := 2) (n := 19) (Nat.le_of_ble_eq_true rfl) (Nat.le_of_ble_eq_true rfl) ?_
  refine lv_dup hx hb dX4_init_15 rfl ?_
  refine x_cI (own := RX4) (wr := [(h0, .inr (4, [.ref q_1, .null, .null, .null, .null, .int (0 : Int32), .int (0 : Int32), .int (0 : Int32), .null, .int (0 : Int32), .int (0 : Int32), .int (0 : Int32)])), (q_1, .inl (cB, 0, .inl (fun _ => (0 : Int32))))]) (As := []) C X hl.1 (c_Law_init l D cI cJ cZ cB cO q_2) [2] [0, 1] ⟨rfl, rfl, by decide, by decide, by decide⟩ k_5_2 k_5_3 k_2_3 k_5_4 rfl (n := 0) (by decide +kernel) ⟨Nat.le_of_ble_eq_true rfl, Nat.le_of_ble_eq_true rfl⟩ rfl rfl (Nat.le_of_ble_eq_true rfl) dX4_init_16 ⟨Nat.le_of_ble_eq_true rfl, Nat.le_of_ble_eq_true rfl⟩ (fun u_3 H locs w_5 X => ?_)
  have X : Wd D A s [(h0, .inr (4, [.ref q_1, .null, .null, .null, .null, .int (0 : Int32), .int (0 : Int32), .int (0 : Int32), .null, .int (0 : Int32), .int (0 : Int32), .int (0 : Int32)])), (q_1, .inl (cB, 0, .inl (fun _ => (0 : Int32)))), (q_2, .inr (3, [.int (0 : Int32), .ref (u_3 1), .ref (u_3 2), .ref (u_3 3), .ref (u_3 4), .ref (u_3 5), .ref (u_3 6), .ref (u_3 7), .int (0 : Int32), .ref (u_3 8), .ref (u_3 9), .ref (u_3 10), .int (0 : Int32), .ref (u_3 11), .ref (u_3 12), .ref (u_3 13), .ref (u_3 14), .int (0 : Int32), .ref (u_3 15)])), ((u_3 1), .inl (cI, 4, .inl (fun _ => (0 : Int32)))), ((u_3 2), .inl (cI, 4, .inl (fun _ => (0 : Int32)))), ((u_3 3), .inl (cI, 3, .inl (fun _ => (0 : Int32)))), ((u_3 4), .inl (cI, 21, .inl (fun _ => (0 : Int32)))), ((u_3 5), .inl (cI, 21, .inl (fun _ => (0 : Int32)))), ((u_3 6), .inl (cI, 40, .inl (fun _ => (-1 : Int32)))), ((u_3 7), .inl (cI, 41, .inl (fun _ => (1 : Int32)))), ((u_3 8), .inl (cI, 40, .inl (fun _ => (0 : Int32)))), ((u_3 9), .inl (cI, 40, .inl (fun _ => (0 : Int32)))), ((u_3 10), .inl (cI, 40, .inl (fun _ => (0 : Int32)))), ((u_3 11), .inl (cI, 40, .inl (fun _ => (0 : Int32)))), ((u_3 12), .inl (cI, 40, .inl (fun _ => (0 : Int32)))), ((u_3 13), .inl (cI, 40, .inl (fun _ => (0 : Int32)))), ((u_3 14), .inl (cI, 700, .inl (fun _ => (0 : Int32)))), ((u_3 15), .inl (cZ, 64, .inl (fun _ => (0 : Int32))))] H locs := X
  refine W.widen (k := 17) (n := 1157) (Nat.le_of_ble_eq_true rfl) (Nat.le_of_ble_eq_true rfl) ?_
  refine x_put (own := RX4) (T := TX4) C X 0 rfl rfl 1 (by decide) k_4_15 rfl rfl rfl (ty := (tyX4 1)) (v := .ref q_2) (by decide +kernel) rfl rfl (Nat.le_of_ble_eq_true rfl) dX4_init_19 (fun H locs X => ?_)
  have X : Wd D A s [(h0, .inr (4, [.ref q_1, .ref q_2, .null, .null, .null, .int (0 : Int32), .int (0 : Int32), .int (0 : Int32), .null, .int (0 : Int32), .int (0 : Int32), .int (0 : Int32)])), (q_1, .inl (cB, 0, .inl (fun _ => (0 : Int32)))), (q_2, .inr (3, [.int (0 : Int32), .ref (u_3 1), .ref (u_3 2), .ref (u_3 3), .ref (u_3 4), .ref (u_3 5), .ref (u_3 6), .ref (u_3 7), .int (0 : Int32), .ref (u_3 8), .ref (u_3 9), .ref (u_3 10), .int (0 : Int32), .ref (u_3 11), .ref (u_3 12), .ref (u_3 13), .ref (u_3 14), .int (0 : Int32), .ref (u_3 15)])), ((u_3 1), .inl (cI, 4, .inl (fun _ => (0 : Int32)))), ((u_3 2), .inl (cI, 4, .inl (fun _ => (0 : Int32)))), ((u_3 3), .inl (cI, 3, .inl (fun _ => (0 : Int32)))), ((u_3 4), .inl (cI, 21, .inl (fun _ => (0 : Int32)))), ((u_3 5), .inl (cI, 21, .inl (fun _ => (0 : Int32)))), ((u_3 6), .inl (cI, 40, .inl (fun _ => (-1 : Int32)))), ((u_3 7), .inl (cI, 41, .inl (fun _ => (1 : Int32)))), ((u_3 8), .inl (cI, 40, .inl (fun _ => (0 : Int32)))), ((u_3 9), .inl (cI, 40, .inl (fun _ => (0 : Int32)))), ((u_3 10), .inl (cI, 40, .inl (fun _ => (0 : Int32)))), ((u_3 11), .inl (cI, 40, .inl (fun _ => (0 : Int32)))), ((u_3 12), .inl (cI, 40, .inl (fun _ => (0 : Int32)))), ((u_3 13), .inl (cI, 40, .inl (fun _ => (0 : Int32)))), ((u_3 14), .inl (cI, 700, .inl (fun _ => (0 : Int32)))), ((u_3 15), .inl (cZ, 64, .inl (fun _ => (0 : Int32))))] H locs := X
  refine lv_aload_n hx hb dX4_init_22 rfl (lv_at hl 0 rfl) ?_
  refine lv_sipush (v := (701 : Int32)) hx hb dX4_init_23 (by decide) ?_
  refine x_newa (own := RX4) (atype := .int) (ty := .int) (N' := 701) (a0 := (701, .inl (fun _ => (0 : Int32)))) C X rfl k_2_7 0 rfl rfl (fun _ => rfl) (by decide) (by decide) (Nat.le_of_ble_eq_true rfl) (Nat.le_of_ble_eq_true rfl) (Nat.le_of_ble_eq_true rfl) dX4_init_26 (fun q_6 H X => ?_)
  have X : Wd D A s [(h0, .inr (4, [.ref q_1, .ref q_2, .null, .null, .null, .int (0 : Int32), .int (0 : Int32), .int (0 : Int32), .null, .int (0 : Int32), .int (0 : Int32), .int (0 : Int32)])), (q_1, .inl (cB, 0, .inl (fun _ => (0 : Int32)))), (q_2, .inr (3, [.int (0 : Int32), .ref (u_3 1), .ref (u_3 2), .ref (u_3 3), .ref (u_3 4), .ref (u_3 5), .ref (u_3 6), .ref (u_3 7), .int (0 : Int32), .ref (u_3 8), .ref (u_3 9), .ref (u_3 10), .int (0 : Int32), .ref (u_3 11), .ref (u_3 12), .ref (u_3 13), .ref (u_3 14), .int (0 : Int32), .ref (u_3 15)])), ((u_3 1), .inl (cI, 4, .inl (fun _ => (0 : Int32)))), ((u_3 2), .inl (cI, 4, .inl (fun _ => (0 : Int32)))), ((u_3 3), .inl (cI, 3, .inl (fun _ => (0 : Int32)))), ((u_3 4), .inl (cI, 21, .inl (fun _ => (0 : Int32)))), ((u_3 5), .inl (cI, 21, .inl (fun _ => (0 : Int32)))), ((u_3 6), .inl (cI, 40, .inl (fun _ => (-1 : Int32)))), ((u_3 7), .inl (cI, 41, .inl (fun _ => (1 : Int32)))), ((u_3 8), .inl (cI, 40, .inl (fun _ => (0 : Int32)))), ((u_3 9), .inl (cI, 40, .inl (fun _ => (0 : Int32)))), ((u_3 10), .inl (cI, 40, .inl (fun _ => (0 : Int32)))), ((u_3 11), .inl (cI, 40, .inl (fun _ => (0 : Int32)))), ((u_3 12), .inl (cI, 40, .inl (fun _ => (0 : Int32)))), ((u_3 13), .inl (cI, 40, .inl (fun _ => (0 : Int32)))), ((u_3 14), .inl (cI, 700, .inl (fun _ => (0 : Int32)))), ((u_3 15), .inl (cZ, 64, .inl (fun _ => (0 : Int32)))), (q_6, .inl (cI, 701, .inl (fun _ => (0 : Int32))))] H locs := X
  refine W.widen (k := 18) (n := 1858) (Nat.le_of_ble_eq_true rfl) (Nat.le_of_ble_eq_true rfl) ?_
  refine x_putF (own := RX4) (T := TX4) C X 0 rfl rfl 2 (by decide) k_4_16 rfl rfl rfl hin rfl (ty := (tyX4 2)) (v := .ref q_6) (by decide +kernel) rfl rfl (Nat.le_of_ble_eq_true rfl) dX4_init_28 (fun H locs X => ?_)
  have X : Wd D A s [(h0, .inr (4, [.ref q_1, .ref q_2, .ref q_6, .null, .null, .int (0 : Int32), .int (0 : Int32), .int (0 : Int32), .null, .int (0 : Int32), .int (0 : Int32), .int (0 : Int32)])), (q_1, .inl (cB, 0, .inl (fun _ => (0 : Int32)))), (q_2, .inr (3, [.int (0 : Int32), .ref (u_3 1), .ref (u_3 2), .ref (u_3 3), .ref (u_3 4), .ref (u_3 5), .ref (u_3 6), .ref (u_3 7), .int (0 : Int32), .ref (u_3 8), .ref (u_3 9), .ref (u_3 10), .int (0 : Int32), .ref (u_3 11), .ref (u_3 12), .ref (u_3 13), .ref (u_3 14), .int (0 : Int32), .ref (u_3 15)])), ((u_3 1), .inl (cI, 4, .inl (fun _ => (0 : Int32)))), ((u_3 2), .inl (cI, 4, .inl (fun _ => (0 : Int32)))), ((u_3 3), .inl (cI, 3, .inl (fun _ => (0 : Int32)))), ((u_3 4), .inl (cI, 21, .inl (fun _ => (0 : Int32)))), ((u_3 5), .inl (cI, 21, .inl (fun _ => (0 : Int32)))), ((u_3 6), .inl (cI, 40, .inl (fun _ => (-1 : Int32)))), ((u_3 7), .inl (cI, 41, .inl (fun _ => (1 : Int32)))), ((u_3 8), .inl (cI, 40, .inl (fun _ => (0 : Int32)))), ((u_3 9), .inl (cI, 40, .inl (fun _ => (0 : Int32)))), ((u_3 10), .inl (cI, 40, .inl (fun _ => (0 : Int32)))), ((u_3 11), .inl (cI, 40, .inl (fun _ => (0 : Int32)))), ((u_3 12), .inl (cI, 40, .inl (fun _ => (0 : Int32)))), ((u_3 13), .inl (cI, 40, .inl (fun _ => (0 : Int32)))), ((u_3 14), .inl (cI, 700, .inl (fun _ => (0 : Int32)))), ((u_3 15), .inl (cZ, 64, .inl (fun _ => (0 : Int32)))), (q_6, .inl (cI, 701, .inl (fun _ => (0 : Int32))))] H locs := X
  refine lv_aload_n hx hb dX4_init_31 rfl (lv_at hl 0 rfl) ?_
  refine lv_sipush (v := (701 : Int32)) hx hb dX4_init_32 (by decide) ?_
  refine x_newa (own := RX4) (atype := .int) (ty := .int) (N' := 701) (a0 := (701, .inl (fun _ => (0 : Int32)))) C X rfl k_2_7 0 rfl rfl (fun _ => rfl) (by decide) (by decide) (Nat.le_of_ble_eq_true rfl) (Nat.le_of_ble_eq_true rfl) (Nat.le_of_ble_eq_true rfl) dX4_init_35 (fun q_7 H X => ?_)
  have X : Wd D A s [(h0, .inr (4, [.ref q_1, .ref q_2, .ref q_6, .null, .null, .int (0 : Int32), .int (0 : Int32), .int (0 : Int32), .null, .int (0 : Int32), .int (0 : Int32), .int (0 : Int32)])), (q_1, .inl (cB, 0, .inl (fun _ => (0 : Int32)))), (q_2, .inr (3, [.int (0 : Int32), .ref (u_3 1), .ref (u_3 2), .ref (u_3 3), .ref (u_3 4), .ref (u_3 5), .ref (u_3 6), .ref (u_3 7), .int (0 : Int32), .ref (u_3 8), .ref (u_3 9), .ref (u_3 10), .int (0 : Int32), .ref (u_3 11), .ref (u_3 12), .ref (u_3 13), .ref (u_3 14), .int (0 : Int32), .ref (u_3 15)])), ((u_3 1), .inl (cI, 4, .inl (fun _ => (0 : Int32)))), ((u_3 2), .inl (cI, 4, .inl (fun _ => (0 : Int32)))), ((u_3 3), .inl (cI, 3, .inl (fun _ => (0 : Int32)))), ((u_3 4), .inl (cI, 21, .inl (fun _ => (0 : Int32)))), ((u_3 5), .inl (cI, 21, .inl (fun _ => (0 : Int32)))), ((u_3 6), .inl (cI, 40, .inl (fun _ => (-1 : Int32)))), ((u_3 7), .inl (cI, 41, .inl (fun _ => (1 : Int32)))), ((u_3 8), .inl (cI, 40, .inl (fun _ => (0 : Int32)))), ((u_3 9), .inl (cI, 40, .inl (fun _ => (0 : Int32)))), ((u_3 10), .inl (cI, 40, .inl (fun _ => (0 : Int32)))), ((u_3 11), .inl (cI, 40, .inl (fun _ => (0 : Int32)))), ((u_3 12), .inl (cI, 40, .inl (fun _ => (0 : Int32)))), ((u_3 13), .inl (cI, 40, .inl (fun _ => (0 : Int32)))), ((u_3 14), .inl (cI, 700, .inl (fun _ => (0 : Int32)))), ((u_3 15), .inl (cZ, 64, .inl (fun _ => (0 : Int32)))), (q_6, .inl (cI, 701, .inl (fun _ => (0 : Int32)))), (q_7, .inl (cI, 701, .inl (fun _ => (0 : Int32))))] H locs := X
  refine W.widen (k := 19) (n := 2559) (Nat.le_of_ble_eq_true rfl) (Nat.le_of_ble_eq_true rfl) ?_
  refine x_putF (own := RX4) (T := TX4) C X 0 rfl rfl 3 (by decide) k_4_17 rfl rfl rfl hin rfl (ty := (tyX4 3)) (v := .ref q_7) (by decide +kernel) rfl rfl (Nat.le_of_ble_eq_true rfl) dX4_init_37 (fun H locs X => ?_)
  have X : Wd D A s [(h0, .inr (4, [.ref q_1, .ref q_2, .ref q_6, .ref q_7, .null, .int (0 : Int32), .int (0 : Int32), .int (0 : Int32), .null, .int (0 : Int32), .int (0 : Int32), .int (0 : Int32)])), (q_1, .inl (cB, 0, .inl (fun _ => (0 : Int32)))), (q_2, .inr (3, [.int (0 : Int32), .ref (u_3 1), .ref (u_3 2), .ref (u_3 3), .ref (u_3 4), .ref (u_3 5), .ref (u_3 6), .ref (u_3 7), .int (0 : Int32), .ref (u_3 8), .ref (u_3 9), .ref (u_3 10), .int (0 : Int32), .ref (u_3 11), .ref (u_3 12), .ref (u_3 13), .ref (u_3 14), .int (0 : Int32), .ref (u_3 15)])), ((u_3 1), .inl (cI, 4, .inl (fun _ => (0 : Int32)))), ((u_3 2), .inl (cI, 4, .inl (fun _ => (0 : Int32)))), ((u_3 3), .inl (cI, 3, .inl (fun _ => (0 : Int32)))), ((u_3 4), .inl (cI, 21, .inl (fun _ => (0 : Int32)))), ((u_3 5), .inl (cI, 21, .inl (fun _ => (0 : Int32)))), ((u_3 6), .inl (cI, 40, .inl (fun _ => (-1 : Int32)))), ((u_3 7), .inl (cI, 41, .inl (fun _ => (1 : Int32)))), ((u_3 8), .inl (cI, 40, .inl (fun _ => (0 : Int32)))), ((u_3 9), .inl (cI, 40, .inl (fun _ => (0 : Int32)))), ((u_3 10), .inl (cI, 40, .inl (fun _ => (0 : Int32)))), ((u_3 11), .inl (cI, 40, .inl (fun _ => (0 : Int32)))), ((u_3 12), .inl (cI, 40, .inl (fun _ => (0 : Int32)))), ((u_3 13), .inl (cI, 40, .inl (fun _ => (0 : Int32)))), ((u_3 14), .inl (cI, 700, .inl (fun _ => (0 : Int32)))), ((u_3 15), .inl (cZ, 64, .inl (fun _ => (0 : Int32)))), (q_6, .inl (cI, 701, .inl (fun _ => (0 : Int32)))), (q_7, .inl (cI, 701, .inl (fun _ => (0 : Int32))))] H locs := X
  refine lv_aload_n hx hb dX4_init_40 rfl (lv_at hl 0 rfl) ?_
  refine lv_sipush (v := (701 : Int32)) hx hb dX4_init_41 (by decide) ?_
  refine x_newa (own := RX4) (atype := .int) (ty := .int) (N' := 701) (a0 := (701, .inl (fun _ => (0 : Int32)))) C X rfl k_2_7 0 rfl rfl (fun _ => rfl) (by decide) (by decide) (Nat.le_of_ble_eq_true rfl) (Nat.le_of_ble_eq_true rfl) (Nat.le_of_ble_eq_true rfl) dX4_init_44 (fun q_8 H X => ?_)
  have X : Wd D A s [(h0, .inr (4, [.ref q_1, .ref q_2, .ref q_6, .ref q_7, .null, .int (0 : Int32), .int (0 : Int32), .int (0 : Int32), .null, .int (0 : Int32), .int (0 : Int32), .int (0 : Int32)])), (q_1, .inl (cB, 0, .inl (fun _ => (0 : Int32)))), (q_2, .inr (3, [.int (0 : Int32), .ref (u_3 1), .ref (u_3 2), .ref (u_3 3), .ref (u_3 4), .ref (u_3 5), .ref (u_3 6), .ref (u_3 7), .int (0 : Int32), .ref (u_3 8), .ref (u_3 9), .ref (u_3 10), .int (0 : Int32), .ref (u_3 11), .ref (u_3 12), .ref (u_3 13), .ref (u_3 14), .int (0 : Int32), .ref (u_3 15)])), ((u_3 1), .inl (cI, 4, .inl (fun _ => (0 : Int32)))), ((u_3 2), .inl (cI, 4, .inl (fun _ => (0 : Int32)))), ((u_3 3), .inl (cI, 3, .inl (fun _ => (0 : Int32)))), ((u_3 4), .inl (cI, 21, .inl (fun _ => (0 : Int32)))), ((u_3 5), .inl (cI, 21, .inl (fun _ => (0 : Int32)))), ((u_3 6), .inl (cI, 40, .inl (fun _ => (-1 : Int32)))), ((u_3 7), .inl (cI, 41, .inl (fun _ => (1 : Int32)))), ((u_3 8), .inl (cI, 40, .inl (fun _ => (0 : Int32)))), ((u_3 9), .inl (cI, 40, .inl (fun _ => (0 : Int32)))), ((u_3 10), .inl (cI, 40, .inl (fun _ => (0 : Int32)))), ((u_3 11), .inl (cI, 40, .inl (fun _ => (0 : Int32)))), ((u_3 12), .inl (cI, 40, .inl (fun _ => (0 : Int32)))), ((u_3 13), .inl (cI, 40, .inl (fun _ => (0 : Int32)))), ((u_3 14), .inl (cI, 700, .inl (fun _ => (0 : Int32)))), ((u_3 15), .inl (cZ, 64, .inl (fun _ => (0 : Int32)))), (q_6, .inl (cI, 701, .inl (fun _ => (0 : Int32)))), (q_7, .inl (cI, 701, .inl (fun _ => (0 : Int32)))), (q_8, .inl (cI, 701, .inl (fun _ => (0 : Int32))))] H locs := X
  refine W.widen (k := 20) (n := 3260) (Nat.le_of_ble_eq_true rfl) (Nat.le_of_ble_eq_true rfl) ?_
  refine x_putF (own := RX4) (T := TX4) C X 0 rfl rfl 4 (by decide) k_4_18 rfl rfl rfl hin rfl (ty := (tyX4 4)) (v := .ref q_8) (by decide +kernel) rfl rfl (Nat.le_of_ble_eq_true rfl) dX4_init_46 (fun H locs X => ?_)
  have X : Wd D A s [(h0, .inr (4, [.ref q_1, .ref q_2, .ref q_6, .ref q_7, .ref q_8, .int (0 : Int32), .int (0 : Int32), .int (0 : Int32), .null, .int (0 : Int32), .int (0 : Int32), .int (0 : Int32)])), (q_1, .inl (cB, 0, .inl (fun _ => (0 : Int32)))), (q_2, .inr (3, [.int (0 : Int32), .ref (u_3 1), .ref (u_3 2), .ref (u_3 3), .ref (u_3 4), .ref (u_3 5), .ref (u_3 6), .ref (u_3 7), .int (0 : Int32), .ref (u_3 8), .ref (u_3 9), .ref (u_3 10), .int (0 : Int32), .ref (u_3 11), .ref (u_3 12), .ref (u_3 13), .ref (u_3 14), .int (0 : Int32), .ref (u_3 15)])), ((u_3 1), .inl (cI, 4, .inl (fun _ => (0 : Int32)))), ((u_3 2), .inl (cI, 4, .inl (fun _ => (0 : Int32)))), ((u_3 3), .inl (cI, 3, .inl (fun _ => (0 : Int32)))), ((u_3 4), .inl (cI, 21, .inl (fun _ => (0 : Int32)))), ((u_3 5), .inl (cI, 21, .inl (fun _ => (0 : Int32)))), ((u_3 6), .inl (cI, 40, .inl (fun _ => (-1 : Int32)))), ((u_3 7), .inl (cI, 41, .inl (fun _ => (1 : Int32)))), ((u_3 8), .inl (cI, 40, .inl (fun _ => (0 : Int32)))), ((u_3 9), .inl (cI, 40, .inl (fun _ => (0 : Int32)))), ((u_3 10), .inl (cI, 40, .inl (fun _ => (0 : Int32)))), ((u_3 11), .inl (cI, 40, .inl (fun _ => (0 : Int32)))), ((u_3 12), .inl (cI, 40, .inl (fun _ => (0 : Int32)))), ((u_3 13), .inl (cI, 40, .inl (fun _ => (0 : Int32)))), ((u_3 14), .inl (cI, 700, .inl (fun _ => (0 : Int32)))), ((u_3 15), .inl (cZ, 64, .inl (fun _ => (0 : Int32)))), (q_6, .inl (cI, 701, .inl (fun _ => (0 : Int32)))), (q_7, .inl (cI, 701, .inl (fun _ => (0 : Int32)))), (q_8, .inl (cI, 701, .inl (fun _ => (0 : Int32))))] H locs := X
  refine lv_aload_n hx hb dX4_init_49 rfl (lv_at hl 0 rfl) ?_
  refine lv_iconst (v := (0 : Int32)) hx hb dX4_init_50 (by decide) ?_
  refine x_put (own := RX4) (T := TX4) C X 0 rfl rfl 5 (by decide) k_4_19 rfl rfl rfl (ty := .int) (v := .int (0 : Int32)) (by decide +kernel) rfl rfl (Nat.le_of_ble_eq_true rfl) dX4_init_51 (fun H locs X => ?_)
  have X : Wd D A s [(h0, .inr (4, [.ref q_1, .ref q_2, .ref q_6, .ref q_7, .ref q_8, .int (0 : Int32), .int (0 : Int32), .int (0 : Int32), .null, .int (0 : Int32), .int (0 : Int32), .int (0 : Int32)])), (q_1, .inl (cB, 0, .inl (fun _ => (0 : Int32)))), (q_2, .inr (3, [.int (0 : Int32), .ref (u_3 1), .ref (u_3 2), .ref (u_3 3), .ref (u_3 4), .ref (u_3 5), .ref (u_3 6), .ref (u_3 7), .int (0 : Int32), .ref (u_3 8), .ref (u_3 9), .ref (u_3 10), .int (0 : Int32), .ref (u_3 11), .ref (u_3 12), .ref (u_3 13), .ref (u_3 14), .int (0 : Int32), .ref (u_3 15)])), ((u_3 1), .inl (cI, 4, .inl (fun _ => (0 : Int32)))), ((u_3 2), .inl (cI, 4, .inl (fun _ => (0 : Int32)))), ((u_3 3), .inl (cI, 3, .inl (fun _ => (0 : Int32)))), ((u_3 4), .inl (cI, 21, .inl (fun _ => (0 : Int32)))), ((u_3 5), .inl (cI, 21, .inl (fun _ => (0 : Int32)))), ((u_3 6), .inl (cI, 40, .inl (fun _ => (-1 : Int32)))), ((u_3 7), .inl (cI, 41, .inl (fun _ => (1 : Int32)))), ((u_3 8), .inl (cI, 40, .inl (fun _ => (0 : Int32)))), ((u_3 9), .inl (cI, 40, .inl (fun _ => (0 : Int32)))), ((u_3 10), .inl (cI, 40, .inl (fun _ => (0 : Int32)))), ((u_3 11), .inl (cI, 40, .inl (fun _ => (0 : Int32)))), ((u_3 12), .inl (cI, 40, .inl (fun _ => (0 : Int32)))), ((u_3 13), .inl (cI, 40, .inl (fun _ => (0 : Int32)))), ((u_3 14), .inl (cI, 700, .inl (fun _ => (0 : Int32)))), ((u_3 15), .inl (cZ, 64, .inl (fun _ => (0 : Int32)))), (q_6, .inl (cI, 701, .inl (fun _ => (0 : Int32)))), (q_7, .inl (cI, 701, .inl (fun _ => (0 : Int32)))), (q_8, .inl (cI, 701, .inl (fun _ => (0 : Int32))))] H locs := X
  refine lv_aload_n hx hb dX4_init_54 rfl (lv_at hl 0 rfl) ?_
  refine lv_iconst (v := (0 : Int32)) hx hb dX4_init_55 (by decide) ?_
  refine x_put (own := RX4) (T := TX4) C X 0 rfl rfl 6 (by decide) k_4_20 rfl rfl rfl (ty := .int) (v := .int (0 : Int32)) (by decide +kernel) rfl rfl (Nat.le_of_ble_eq_true rfl) dX4_init_56 (fun H locs X => ?_)
  have X : Wd D A s [(h0, .inr (4, [.ref q_1, .ref q_2, .ref q_6, .ref q_7, .ref q_8, .int (0 : Int32), .int (0 : Int32), .int (0 : Int32), .null, .int (0 : Int32), .int (0 : Int32), .int (0 : Int32)])), (q_1, .inl (cB, 0, .inl (fun _ => (0 : Int32)))), (q_2, .inr (3, [.int (0 : Int32), .ref (u_3 1), .ref (u_3 2), .ref (u_3 3), .ref (u_3 4), .ref (u_3 5), .ref (u_3 6), .ref (u_3 7), .int (0 : Int32), .ref (u_3 8), .ref (u_3 9), .ref (u_3 10), .int (0 : Int32), .ref (u_3 11), .ref (u_3 12), .ref (u_3 13), .ref (u_3 14), .int (0 : Int32), .ref (u_3 15)])), ((u_3 1), .inl (cI, 4, .inl (fun _ => (0 : Int32)))), ((u_3 2), .inl (cI, 4, .inl (fun _ => (0 : Int32)))), ((u_3 3), .inl (cI, 3, .inl (fun _ => (0 : Int32)))), ((u_3 4), .inl (cI, 21, .inl (fun _ => (0 : Int32)))), ((u_3 5), .inl (cI, 21, .inl (fun _ => (0 : Int32)))), ((u_3 6), .inl (cI, 40, .inl (fun _ => (-1 : Int32)))), ((u_3 7), .inl (cI, 41, .inl (fun _ => (1 : Int32)))), ((u_3 8), .inl (cI, 40, .inl (fun _ => (0 : Int32)))), ((u_3 9), .inl (cI, 40, .inl (fun _ => (0 : Int32)))), ((u_3 10), .inl (cI, 40, .inl (fun _ => (0 : Int32)))), ((u_3 11), .inl (cI, 40, .inl (fun _ => (0 : Int32)))), ((u_3 12), .inl (cI, 40, .inl (fun _ => (0 : Int32)))), ((u_3 13), .inl (cI, 40, .inl (fun _ => (0 : Int32)))), ((u_3 14), .inl (cI, 700, .inl (fun _ => (0 : Int32)))), ((u_3 15), .inl (cZ, 64, .inl (fun _ => (0 : Int32)))), (q_6, .inl (cI, 701, .inl (fun _ => (0 : Int32)))), (q_7, .inl (cI, 701, .inl (fun _ => (0 : Int32)))), (q_8, .inl (cI, 701, .inl (fun _ => (0 : Int32))))] H locs := X
  refine lv_aload_n hx hb dX4_init_59 rfl (lv_at hl 0 rfl) ?_
  refine lv_iconst (v := (0 : Int32)) hx hb dX4_init_60 (by decide) ?_
  refine x_put (own := RX4) (T := TX4) C X 0 rfl rfl 7 (by decide) k_4_21 rfl rfl rfl (ty := .int) (v := .int (0 : Int32)) (by decide +kernel) rfl rfl (Nat.le_of_ble_eq_true rfl) dX4_init_61 (fun H locs X => ?_)
  have X : Wd D A s [(h0, .inr (4, [.ref q_1, .ref q_2, .ref q_6, .ref q_7, .ref q_8, .int (0 : Int32), .int (0 : Int32), .int (0 : Int32), .null, .int (0 : Int32), .int (0 : Int32), .int (0 : Int32)])), (q_1, .inl (cB, 0, .inl (fun _ => (0 : Int32)))), (q_2, .inr (3, [.int (0 : Int32), .ref (u_3 1), .ref (u_3 2), .ref (u_3 3), .ref (u_3 4), .ref (u_3 5), .ref (u_3 6), .ref (u_3 7), .int (0 : Int32), .ref (u_3 8), .ref (u_3 9), .ref (u_3 10), .int (0 : Int32), .ref (u_3 11), .ref (u_3 12), .ref (u_3 13), .ref (u_3 14), .int (0 : Int32), .ref (u_3 15)])), ((u_3 1), .inl (cI, 4, .inl (fun _ => (0 : Int32)))), ((u_3 2), .inl (cI, 4, .inl (fun _ => (0 : Int32)))), ((u_3 3), .inl (cI, 3, .inl (fun _ => (0 : Int32)))), ((u_3 4), .inl (cI, 21, .inl (fun _ => (0 : Int32)))), ((u_3 5), .inl (cI, 21, .inl (fun _ => (0 : Int32)))), ((u_3 6), .inl (cI, 40, .inl (fun _ => (-1 : Int32)))), ((u_3 7), .inl (cI, 41, .inl (fun _ => (1 : Int32)))), ((u_3 8), .inl (cI, 40, .inl (fun _ => (0 : Int32)))), ((u_3 9), .inl (cI, 40, .inl (fun _ => (0 : Int32)))), ((u_3 10), .inl (cI, 40, .inl (fun _ => (0 : Int32)))), ((u_3 11), .inl (cI, 40, .inl (fun _ => (0 : Int32)))), ((u_3 12), .inl (cI, 40, .inl (fun _ => (0 : Int32)))), ((u_3 13), .inl (cI, 40, .inl (fun _ => (0 : Int32)))), ((u_3 14), .inl (cI, 700, .inl (fun _ => (0 : Int32)))), ((u_3 15), .inl (cZ, 64, .inl (fun _ => (0 : Int32)))), (q_6, .inl (cI, 701, .inl (fun _ => (0 : Int32)))), (q_7, .inl (cI, 701, .inl (fun _ => (0 : Int32)))), (q_8, .inl (cI, 701, .inl (fun _ => (0 : Int32))))] H locs := X
  refine lv_aload_n hx hb dX4_init_64 rfl (lv_at hl 0 rfl) ?_
  refine lv_bipush (v := (64 : Int32)) hx hb dX4_init_65 (by decide) ?_
  refine x_newa (own := RX4) (atype := .int) (ty := .int) (N' := 64) (a0 := (64, .inl (fun _ => (0 : Int32)))) C X rfl k_2_7 0 rfl rfl (fun _ => rfl) (by decide) (by decide) (Nat.le_of_ble_eq_true rfl) (Nat.le_of_ble_eq_true rfl) (Nat.le_of_ble_eq_true rfl) dX4_init_67 (fun q_9 H X => ?_)
  have X : Wd D A s [(h0, .inr (4, [.ref q_1, .ref q_2, .ref q_6, .ref q_7, .ref q_8, .int (0 : Int32), .int (0 : Int32), .int (0 : Int32), .null, .int (0 : Int32), .int (0 : Int32), .int (0 : Int32)])), (q_1, .inl (cB, 0, .inl (fun _ => (0 : Int32)))), (q_2, .inr (3, [.int (0 : Int32), .ref (u_3 1), .ref (u_3 2), .ref (u_3 3), .ref (u_3 4), .ref (u_3 5), .ref (u_3 6), .ref (u_3 7), .int (0 : Int32), .ref (u_3 8), .ref (u_3 9), .ref (u_3 10), .int (0 : Int32), .ref (u_3 11), .ref (u_3 12), .ref (u_3 13), .ref (u_3 14), .int (0 : Int32), .ref (u_3 15)])), ((u_3 1), .inl (cI, 4, .inl (fun _ => (0 : Int32)))), ((u_3 2), .inl (cI, 4, .inl (fun _ => (0 : Int32)))), ((u_3 3), .inl (cI, 3, .inl (fun _ => (0 : Int32)))), ((u_3 4), .inl (cI, 21, .inl (fun _ => (0 : Int32)))), ((u_3 5), .inl (cI, 21, .inl (fun _ => (0 : Int32)))), ((u_3 6), .inl (cI, 40, .inl (fun _ => (-1 : Int32)))), ((u_3 7), .inl (cI, 41, .inl (fun _ => (1 : Int32)))), ((u_3 8), .inl (cI, 40, .inl (fun _ => (0 : Int32)))), ((u_3 9), .inl (cI, 40, .inl (fun _ => (0 : Int32)))), ((u_3 10), .inl (cI, 40, .inl (fun _ => (0 : Int32)))), ((u_3 11), .inl (cI, 40, .inl (fun _ => (0 : Int32)))), ((u_3 12), .inl (cI, 40, .inl (fun _ => (0 : Int32)))), ((u_3 13), .inl (cI, 40, .inl (fun _ => (0 : Int32)))), ((u_3 14), .inl (cI, 700, .inl (fun _ => (0 : Int32)))), ((u_3 15), .inl (cZ, 64, .inl (fun _ => (0 : Int32)))), (q_6, .inl (cI, 701, .inl (fun _ => (0 : Int32)))), (q_7, .inl (cI, 701, .inl (fun _ => (0 : Int32)))), (q_8, .inl (cI, 701, .inl (fun _ => (0 : Int32)))), (q_9, .inl (cI, 64, .inl (fun _ => (0 : Int32))))] H locs := X
  refine W.widen (k := 21) (n := 3324) (Nat.le_of_ble_eq_true rfl) (Nat.le_of_ble_eq_true rfl) ?_
  refine x_putF (own := RX4) (T := TX4) C X 0 rfl rfl 8 (by decide) k_4_22 rfl rfl rfl hin rfl (ty := (tyX4 8)) (v := .ref q_9) (by decide +kernel) rfl rfl (Nat.le_of_ble_eq_true rfl) dX4_init_69 (fun H locs X => ?_)
  have X : Wd D A s [(h0, .inr (4, [.ref q_1, .ref q_2, .ref q_6, .ref q_7, .ref q_8, .int (0 : Int32), .int (0 : Int32), .int (0 : Int32), .ref q_9, .int (0 : Int32), .int (0 : Int32), .int (0 : Int32)])), (q_1, .inl (cB, 0, .inl (fun _ => (0 : Int32)))), (q_2, .inr (3, [.int (0 : Int32), .ref (u_3 1), .ref (u_3 2), .ref (u_3 3), .ref (u_3 4), .ref (u_3 5), .ref (u_3 6), .ref (u_3 7), .int (0 : Int32), .ref (u_3 8), .ref (u_3 9), .ref (u_3 10), .int (0 : Int32), .ref (u_3 11), .ref (u_3 12), .ref (u_3 13), .ref (u_3 14), .int (0 : Int32), .ref (u_3 15)])), ((u_3 1), .inl (cI, 4, .inl (fun _ => (0 : Int32)))), ((u_3 2), .inl (cI, 4, .inl (fun _ => (0 : Int32)))), ((u_3 3), .inl (cI, 3, .inl (fun _ => (0 : Int32)))), ((u_3 4), .inl (cI, 21, .inl (fun _ => (0 : Int32)))), ((u_3 5), .inl (cI, 21, .inl (fun _ => (0 : Int32)))), ((u_3 6), .inl (cI, 40, .inl (fun _ => (-1 : Int32)))), ((u_3 7), .inl (cI, 41, .inl (fun _ => (1 : Int32)))), ((u_3 8), .inl (cI, 40, .inl (fun _ => (0 : Int32)))), ((u_3 9), .inl (cI, 40, .inl (fun _ => (0 : Int32)))), ((u_3 10), .inl (cI, 40, .inl (fun _ => (0 : Int32)))), ((u_3 11), .inl (cI, 40, .inl (fun _ => (0 : Int32)))), ((u_3 12), .inl (cI, 40, .inl (fun _ => (0 : Int32)))), ((u_3 13), .inl (cI, 40, .inl (fun _ => (0 : Int32)))), ((u_3 14), .inl (cI, 700, .inl (fun _ => (0 : Int32)))), ((u_3 15), .inl (cZ, 64, .inl (fun _ => (0 : Int32)))), (q_6, .inl (cI, 701, .inl (fun _ => (0 : Int32)))), (q_7, .inl (cI, 701, .inl (fun _ => (0 : Int32)))), (q_8, .inl (cI, 701, .inl (fun _ => (0 : Int32)))), (q_9, .inl (cI, 64, .inl (fun _ => (0 : Int32))))] H locs := X
  refine lv_aload_n hx hb dX4_init_72 rfl (lv_at hl 0 rfl) ?_
  refine lv_iconst (v := (0 : Int32)) hx hb dX4_init_73 (by decide) ?_
  refine x_put (own := RX4) (T := TX4) C X 0 rfl rfl 9 (by decide) k_4_23 rfl rfl rfl (ty := .int) (v := .int (0 : Int32)) (by decide +kernel) rfl rfl (Nat.le_of_ble_eq_true rfl) dX4_init_74 (fun H locs X => ?_)
  have X : Wd D A s [(h0, .inr (4, [.ref q_1, .ref q_2, .ref q_6, .ref q_7, .ref q_8, .int (0 : Int32), .int (0 : Int32), .int (0 : Int32), .ref q_9, .int (0 : Int32), .int (0 : Int32), .int (0 : Int32)])), (q_1, .inl (cB, 0, .inl (fun _ => (0 : Int32)))), (q_2, .inr (3, [.int (0 : Int32), .ref (u_3 1), .ref (u_3 2), .ref (u_3 3), .ref (u_3 4), .ref (u_3 5), .ref (u_3 6), .ref (u_3 7), .int (0 : Int32), .ref (u_3 8), .ref (u_3 9), .ref (u_3 10), .int (0 : Int32), .ref (u_3 11), .ref (u_3 12), .ref (u_3 13), .ref (u_3 14), .int (0 : Int32), .ref (u_3 15)])), ((u_3 1), .inl (cI, 4, .inl (fun _ => (0 : Int32)))), ((u_3 2), .inl (cI, 4, .inl (fun _ => (0 : Int32)))), ((u_3 3), .inl (cI, 3, .inl (fun _ => (0 : Int32)))), ((u_3 4), .inl (cI, 21, .inl (fun _ => (0 : Int32)))), ((u_3 5), .inl (cI, 21, .inl (fun _ => (0 : Int32)))), ((u_3 6), .inl (cI, 40, .inl (fun _ => (-1 : Int32)))), ((u_3 7), .inl (cI, 41, .inl (fun _ => (1 : Int32)))), ((u_3 8), .inl (cI, 40, .inl (fun _ => (0 : Int32)))), ((u_3 9), .inl (cI, 40, .inl (fun _ => (0 : Int32)))), ((u_3 10), .inl (cI, 40, .inl (fun _ => (0 : Int32)))), ((u_3 11), .inl (cI, 40, .inl (fun _ => (0 : Int32)))), ((u_3 12), .inl (cI, 40, .inl (fun _ => (0 : Int32)))), ((u_3 13), .inl (cI, 40, .inl (fun _ => (0 : Int32)))), ((u_3 14), .inl (cI, 700, .inl (fun _ => (0 : Int32)))), ((u_3 15), .inl (cZ, 64, .inl (fun _ => (0 : Int32)))), (q_6, .inl (cI, 701, .inl (fun _ => (0 : Int32)))), (q_7, .inl (cI, 701, .inl (fun _ => (0 : Int32)))), (q_8, .inl (cI, 701, .inl (fun _ => (0 : Int32)))), (q_9, .inl (cI, 64, .inl (fun _ => (0 : Int32))))] H locs := X
  refine lv_aload_n hx hb dX4_init_77 rfl (lv_at hl 0 rfl) ?_
  refine lv_iconst (v := (0 : Int32)) hx hb dX4_init_78 (by decide) ?_
  refine x_put (own := RX4) (T := TX4) C X 0 rfl rfl 10 (by decide) k_5_0 rfl rfl rfl (ty := .int) (v := .int (0 : Int32)) (by decide +kernel) rfl rfl (Nat.le_of_ble_eq_true rfl) dX4_init_79 (fun H locs X => ?_)
  have X : Wd D A s [(h0, .inr (4, [.ref q_1, .ref q_2, .ref q_6, .ref q_7, .ref q_8, .int (0 : Int32), .int (0 : Int32), .int (0 : Int32), .ref q_9, .int (0 : Int32), .int (0 : Int32), .int (0 : Int32)])), (q_1, .inl (cB, 0, .inl (fun _ => (0 : Int32)))), (q_2, .inr (3, [.int (0 : Int32), .ref (u_3 1), .ref (u_3 2), .ref (u_3 3), .ref (u_3 4), .ref (u_3 5), .ref (u_3 6), .ref (u_3 7), .int (0 : Int32), .ref (u_3 8), .ref (u_3 9), .ref (u_3 10), .int (0 : Int32), .ref (u_3 11), .ref (u_3 12), .ref (u_3 13), .ref (u_3 14), .int (0 : Int32), .ref (u_3 15)])), ((u_3 1), .inl (cI, 4, .inl (fun _ => (0 : Int32)))), ((u_3 2), .inl (cI, 4, .inl (fun _ => (0 : Int32)))), ((u_3 3), .inl (cI, 3, .inl (fun _ => (0 : Int32)))), ((u_3 4), .inl (cI, 21, .inl (fun _ => (0 : Int32)))), ((u_3 5), .inl (cI, 21, .inl (fun _ => (0 : Int32)))), ((u_3 6), .inl (cI, 40, .inl (fun _ => (-1 : Int32)))), ((u_3 7), .inl (cI, 41, .inl (fun _ => (1 : Int32)))), ((u_3 8), .inl (cI, 40, .inl (fun _ => (0 : Int32)))), ((u_3 9), .inl (cI, 40, .inl (fun _ => (0 : Int32)))), ((u_3 10), .inl (cI, 40, .inl (fun _ => (0 : Int32)))), ((u_3 11), .inl (cI, 40, .inl (fun _ => (0 : Int32)))), ((u_3 12), .inl (cI, 40, .inl (fun _ => (0 : Int32)))), ((u_3 13), .inl (cI, 40, .inl (fun _ => (0 : Int32)))), ((u_3 14), .inl (cI, 700, .inl (fun _ => (0 : Int32)))), ((u_3 15), .inl (cZ, 64, .inl (fun _ => (0 : Int32)))), (q_6, .inl (cI, 701, .inl (fun _ => (0 : Int32)))), (q_7, .inl (cI, 701, .inl (fun _ => (0 : Int32)))), (q_8, .inl (cI, 701, .inl (fun _ => (0 : Int32)))), (q_9, .inl (cI, 64, .inl (fun _ => (0 : Int32))))] H locs := X
  refine lv_aload_n hx hb dX4_init_82 rfl (lv_at hl 0 rfl) ?_
  refine lv_iconst (v := (0 : Int32)) hx hb dX4_init_83 (by decide) ?_
  refine x_put (own := RX4) (T := TX4) C X 0 rfl rfl 11 (by decide) k_5_1 rfl rfl rfl (ty := .int) (v := .int (0 : Int32)) (by decide +kernel) rfl rfl (Nat.le_of_ble_eq_true rfl) dX4_init_84 (fun H locs X => ?_)
  have X : Wd D A s [(h0, .inr (4, [.ref q_1, .ref q_2, .ref q_6, .ref q_7, .ref q_8, .int (0 : Int32), .int (0 : Int32), .int (0 : Int32), .ref q_9, .int (0 : Int32), .int (0 : Int32), .int (0 : Int32)])), (q_1, .inl (cB, 0, .inl (fun _ => (0 : Int32)))), (q_2, .inr (3, [.int (0 : Int32), .ref (u_3 1), .ref (u_3 2), .ref (u_3 3), .ref (u_3 4), .ref (u_3 5), .ref (u_3 6), .ref (u_3 7), .int (0 : Int32), .ref (u_3 8), .ref (u_3 9), .ref (u_3 10), .int (0 : Int32), .ref (u_3 11), .ref (u_3 12), .ref (u_3 13), .ref (u_3 14), .int (0 : Int32), .ref (u_3 15)])), ((u_3 1), .inl (cI, 4, .inl (fun _ => (0 : Int32)))), ((u_3 2), .inl (cI, 4, .inl (fun _ => (0 : Int32)))), ((u_3 3), .inl (cI, 3, .inl (fun _ => (0 : Int32)))), ((u_3 4), .inl (cI, 21, .inl (fun _ => (0 : Int32)))), ((u_3 5), .inl (cI, 21, .inl (fun _ => (0 : Int32)))), ((u_3 6), .inl (cI, 40, .inl (fun _ => (-1 : Int32)))), ((u_3 7), .inl (cI, 41, .inl (fun _ => (1 : Int32)))), ((u_3 8), .inl (cI, 40, .inl (fun _ => (0 : Int32)))), ((u_3 9), .inl (cI, 40, .inl (fun _ => (0 : Int32)))), ((u_3 10), .inl (cI, 40, .inl (fun _ => (0 : Int32)))), ((u_3 11), .inl (cI, 40, .inl (fun _ => (0 : Int32)))), ((u_3 12), .inl (cI, 40, .inl (fun _ => (0 : Int32)))), ((u_3 13), .inl (cI, 40, .inl (fun _ => (0 : Int32)))), ((u_3 14), .inl (cI, 700, .inl (fun _ => (0 : Int32)))), ((u_3 15), .inl (cZ, 64, .inl (fun _ => (0 : Int32)))), (q_6, .inl (cI, 701, .inl (fun _ => (0 : Int32)))), (q_7, .inl (cI, 701, .inl (fun _ => (0 : Int32)))), (q_8, .inl (cI, 701, .inl (fun _ => (0 : Int32)))), (q_9, .inl (cI, 64, .inl (fun _ => (0 : Int32))))] H locs := X
  exact x_vret C X hr hlk (fun k => ([h0, q_1, q_2, (u_3 1), (u_3 2), (u_3 3), (u_3 4), (u_3 5), (u_3 6), (u_3 7), (u_3 8), (u_3 9), (u_3 10), (u_3 11), (u_3 12), (u_3 13), (u_3 14), (u_3 15), q_6, q_7, q_8, q_9] : List Nat).getD k 0) [0, 1, 2, 3, 4, 5, 6, 7, 8, 9, 10, 11, 12, 13, 14, 15, 16, 17, 18, 19, 20, 21] (by decide) rfl (trivial) (Nat.le_of_ble_eq_true rfl) (Nat.le_of_ble_eq_true rfl) dX4_init_87
set_option maxHeartbeats 4000000 in
set_option maxRecDepth 100000 in
theorem c_Draw_init (l : Launch) (D : va_G) (cI cJ cZ cB : ClassId) (cO : ClassId) (h0 wa : Nat) :
    CV l D [(cI, .int), (cJ, .long), (cZ, .boolean), (cB, .byte), (cO, .object "LuckLinks$World")] yX9_init cX9_init 2 ({ frames := 2, cells := 7, slots := 92, locals := 40 } : Room) [.ref h0, .ref wa] [(h0, .inr (9, [.null, .null, .null, .null]))] (fun (u : (Nat → Nat)) => match u with | u => (True)) (fun (u : (Nat → Nat)) => match u with | u => [(h0, .inr (9, [.ref wa, .ref (u 1), .ref (u 4), .ref (u 7)])), ((u 1), .inr (5, [.ref (u 2), .ref (u 3), .int (0 : Int32)])), ((u 2), .inl (cI, 20, .inl (fun _ => (0 : Int32)))), ((u 3), .inl (cI, 20, .inl (fun _ => (0 : Int32)))), ((u 4), .inr (5, [.ref (u 5), .ref (u 6), .int (0 : Int32)])), ((u 5), .inl (cI, 20, .inl (fun _ => (0 : Int32)))), ((u 6), .inl (cI, 20, .inl (fun _ => (0 : Int32)))), ((u 7), .inl (cI, 6, .inl (fun _ => (0 : Int32))))]) := by
  intro sz
  refine body_of (y := yX9_init) (cc := cX9_init) (maxL := 2) (ret := none) (rm := ({ frames := 2, cells := 7, slots := 92, locals := 40 } : Room)) (wc := [(h0, .inr (9, [.null, .null, .null, .null]))]) (tys := [(cI, .int), (cJ, .long), (cZ, .boolean), (cB, .byte), (cO, .object "LuckLinks$World")]) (D := D) (sz := sz) (own := RX9) (av := [.ref h0, .ref wa]) (Qc := fun A => va_Qv (fun (u : (Nat → Nat)) => match u with | u => (True)) (fun u t => Aft D A ((fun (u : (Nat → Nat)) => match u with | u => [(h0, .inr (9, [.ref wa, .ref (u 1), .ref (u 4), .ref (u 7)])), ((u 1), .inr (5, [.ref (u 2), .ref (u 3), .int (0 : Int32)])), ((u 2), .inl (cI, 20, .inl (fun _ => (0 : Int32)))), ((u 3), .inl (cI, 20, .inl (fun _ => (0 : Int32)))), ((u 4), .inr (5, [.ref (u 5), .ref (u 6), .int (0 : Int32)])), ((u 5), .inl (cI, 20, .inl (fun _ => (0 : Int32)))), ((u 6), .inl (cI, 20, .inl (fun _ => (0 : Int32)))), ((u 7), .inl (cI, 6, .inl (fun _ => (0 : Int32))))]) u) t) A) (by decide) rfl (Nat.le_of_ble_eq_true rfl) (fun p e s m below meth c A ls C hr hlk hin X hl => ?_)
  have hx := C.1
  have hb := C.2.1
  have hown := C.2.2.2.1
  have hts := C.2.2.2.2.1
  have hl : lv_has ls 2 [(0, .ref h0), (1, .ref wa)] := hl
  show W p l e _ s m _ below meth c s.heap [] 0 0 (MQ below (va_Qv (fun (u : (Nat → Nat)) => match u with | u => (True)) (fun u t => Aft D A ((fun (u : (Nat → Nat)) => match u with | u => [(h0, .inr (9, [.ref wa, .ref (u 1), .ref (u 4), .ref (u 7)])), ((u 1), .inr (5, [.ref (u 2), .ref (u 3), .int (0 : Int32)])), ((u 2), .inl (cI, 20, .inl (fun _ => (0 : Int32)))), ((u 3), .inl (cI, 20, .inl (fun _ => (0 : Int32)))), ((u 4), .inr (5, [.ref (u 5), .ref (u 6), .int (0 : Int32)])), ((u 5), .inl (cI, 20, .inl (fun _ => (0 : Int32)))), ((u 6), .inl (cI, 20, .inl (fun _ => (0 : Int32)))), ((u 7), .inl (cI, 6, .inl (fun _ => (0 : Int32))))]) u) t) A) ([.ref h0, .ref wa] : List Value).toArray s 7 92 A) (F0 m 0 ls [])
  have X : Wd D A s [(h0, .inr (9, [.null, .null, .null, .null]))] s.heap [] := X
  obtain ⟨H, locs, eH, eL⟩ : ∃ H locs, H = s.heap ∧ locs = ([] : List Loc) := ⟨_, _, rfl, rfl⟩
  rw [← eH, ← eL] at X ⊢
  clear eH eL
  refine lv_aload_n hx hb dX9_init_0 rfl (lv_at hl 0 rfl) ?_
  refine x_objInit (own := RX9) C hl.1 k_6_13 k_1_10 k_1_11 dX9_init_1 (Nat.le_of_ble_eq_true rfl) (Nat.le_of_ble_eq_true rfl) ?_
  refine lv_aload_n hx hb dX9_init_4 rfl (lv_at hl 0 rfl) ?_
  refine x_new (own := RX9) (ci := 5) (fs := [.null, .null, .int (0 : Int32)]) C X rfl tyX5 tyX5_ok k_6_14 k_6_15 k_6_16 (fun j hj => by match j, hj with | 0, _ => rfl | 1, _ => rfl | 2, _ => rfl | j + 3, h => exact absurd h (by omega)) (Nat.le_of_ble_eq_true rfl) (Nat.le_of_ble_eq_true rfl) dX9_init_5 (fun q_1 H X => ?_)
  have X : Wd D A s [(h0, .inr (9, [.null, .null, .null, .null])), (q_1, .inr (5, [.null, .null, .int (0 : Int32)]))] H locs := X
  refine W.widen (k := 1) (n := 3) (Nat.le_of_ble_eq_true rfl) (Nat.le_of_ble_eq_true rfl) ?_
  refine lv_dup hx hb dX9_init_8 rfl ?_
  refine x_cI (own := RX9) (wr := [(h0, .inr (9, [.null, .null, .null, .null]))]) (As := []) C X hl.1 (c_Rank_init l D cI cJ cZ cB cO q_1) [1] [0] ⟨rfl, rfl, by decide, by decide, by decide⟩ k_6_21 k_6_22 k_6_16 k_6_23 rfl (n := 0) (by decide +kernel) ⟨Nat.le_of_ble_eq_true rfl, Nat.le_of_ble_eq_true rfl⟩ rfl rfl (Nat.le_of_ble_eq_true rfl) dX9_init_9 ⟨Nat.le_of_ble_eq_true rfl, Nat.le_of_ble_eq_true rfl⟩ (fun u_2 H locs w_4 X => ?_)
  have X : Wd D A s [(h0, .inr (9, [.null, .null, .null, .null])), (q_1, .inr (5, [.ref (u_2 1), .ref (u_2 2), .int (0 : Int32)])), ((u_2 1), .inl (cI, 20, .inl (fun _ => (0 : Int32)))), ((u_2 2), .inl (cI, 20, .inl (fun _ => (0 : Int32))))] H locs := X
  refine W.widen (k := 3) (n := 43) (Nat.le_of_ble_eq_true rfl) (Nat.le_of_ble_eq_true rfl) ?_
  refine x_putF (own := RX9) (T := TX9) C X 0 rfl rfl 1 (by decide) k_6_17 rfl rfl rfl hin rfl (ty := (tyX9 1)) (v := .ref q_1) (by decide +kernel) rfl rfl (Nat.le_of_ble_eq_true rfl) dX9_init_12 (fun H locs X => ?_)
  have X : Wd D A s [(h0, .inr (9, [.null, .ref q_1, .null, .null])), (q_1, .inr (5, [.ref (u_2 1), .ref (u_2 2), .int (0 : Int32)])), ((u_2 1), .inl (cI, 20, .inl (fun _ => (0 : Int32)))), ((u_2 2), .inl (cI, 20, .inl (fun _ => (0 : Int32))))] H locs := X
  refine lv_aload_n hx hb dX9_init_15 rfl (lv_at hl 0 rfl) ?_
  refine x_new (own := RX9) (ci := 5) (fs := [.null, .null, .int (0 : Int32)]) C X rfl tyX5 tyX5_ok k_6_14 k_6_15 k_6_16 (fun j hj => by match j, hj with | 0, _ => rfl | 1, _ => rfl | 2, _ => rfl | j + 3, h => exact absurd h (by omega)) (Nat.le_of_ble_eq_true rfl) (Nat.le_of_ble_eq_true rfl) dX9_init_16 (fun q_5 H X => ?_)
  have X : Wd D A s [(h0, .inr (9, [.null, .ref q_1, .null, .null])), (q_1, .inr (5, [.ref (u_2 1), .ref (u_2 2), .int (0 : Int32)])), ((u_2 1), .inl (cI, 20, .inl (fun _ => (0 : Int32)))), ((u_2 2), .inl (cI, 20, .inl (fun _ => (0 : Int32)))), (q_5, .inr (5, [.null, .null, .int (0 : Int32)]))] H locs := X
  refine W.widen (k := 4) (n := 46) (Nat.le_of_ble_eq_true rfl) (Nat.le_of_ble_eq_true rfl) ?_
  refine lv_dup hx hb dX9_init_19 rfl ?_
  refine x_cI (own := RX9) (wr := [(h0, .inr (9, [.null, .ref q_1, .null, .null])), (q_1, .inr (5, [.ref (u_2 1), .ref (u_2 2), .int (0 : Int32)])), ((u_2 1), .inl (cI, 20, .inl (fun _ => (0 : Int32)))), ((u_2 2), .inl (cI, 20, .inl (fun _ => (0 : Int32))))]) (As := []) C X hl.1 (c_Rank_init l D cI cJ cZ cB cO q_5) [4] [0, 1, 2, 3] ⟨rfl, rfl, by decide, by decide, by decide⟩ k_6_21 k_6_22 k_6_16 k_6_23 rfl (n := 0) (by decide +kernel) ⟨Nat.le_of_ble_eq_true rfl, Nat.le_of_ble_eq_true rfl⟩ rfl rfl (Nat.le_of_ble_eq_true rfl) dX9_init_20 ⟨Nat.le_of_ble_eq_true rfl, Nat.le_of_ble_eq_true rfl⟩ (fun u_6 H locs w_8 X => ?_)
  have X : Wd D A s [(h0, .inr (9, [.null, .ref q_1, .null, .null])), (q_1, .inr (5, [.ref (u_2 1), .ref (u_2 2), .int (0 : Int32)])), ((u_2 1), .inl (cI, 20, .inl (fun _ => (0 : Int32)))), ((u_2 2), .inl (cI, 20, .inl (fun _ => (0 : Int32)))), (q_5, .inr (5, [.ref (u_6 1), .ref (u_6 2), .int (0 : Int32)])), ((u_6 1), .inl (cI, 20, .inl (fun _ => (0 : Int32)))), ((u_6 2), .inl (cI, 20, .inl (fun _ => (0 : Int32))))] H locs := X
  refine W.widen (k := 6) (n := 86) (Nat.le_of_ble_eq_true rfl) (Nat.le_of_ble_eq_true rfl) ?_
  refine x_putF (own := RX9) (T := TX9) C X 0 rfl rfl 2 (by decide) k_6_18 rfl rfl rfl hin rfl (ty := (tyX9 2)) (v := .ref q_5) (by decide +kernel) rfl rfl (Nat.le_of_ble_eq_true rfl) dX9_init_23 (fun H locs X => ?_)
  have X : Wd D A s [(h0, .inr (9, [.null, .ref q_1, .ref q_5, .null])), (q_1, .inr (5, [.ref (u_2 1), .ref (u_2 2), .int (0 : Int32)])), ((u_2 1), .inl (cI, 20, .inl (fun _ => (0 : Int32)))), ((u_2 2), .inl (cI, 20, .inl (fun _ => (0 : Int32)))), (q_5, .inr (5, [.ref (u_6 1), .ref (u_6 2), .int (0 : Int32)])), ((u_6 1), .inl (cI, 20, .inl (fun _ => (0 : Int32)))), ((u_6 2), .inl (cI, 20, .inl (fun _ => (0 : Int32))))] H locs := X
  refine lv_aload_n hx hb dX9_init_26 rfl (lv_at hl 0 rfl) ?_
  refine lv_bipush (v := (6 : Int32)) hx hb dX9_init_27 (by decide) ?_
  refine x_newa (own := RX9) (atype := .int) (ty := .int) (N' := 6) (a0 := (6, .inl (fun _ => (0 : Int32)))) C X rfl k_2_7 0 rfl rfl (fun _ => rfl) (by decide) (by decide) (Nat.le_of_ble_eq_true rfl) (Nat.le_of_ble_eq_true rfl) (Nat.le_of_ble_eq_true rfl) dX9_init_29 (fun q_9 H X => ?_)
  have X : Wd D A s [(h0, .inr (9, [.null, .ref q_1, .ref q_5, .null])), (q_1, .inr (5, [.ref (u_2 1), .ref (u_2 2), .int (0 : Int32)])), ((u_2 1), .inl (cI, 20, .inl (fun _ => (0 : Int32)))), ((u_2 2), .inl (cI, 20, .inl (fun _ => (0 : Int32)))), (q_5, .inr (5, [.ref (u_6 1), .ref (u_6 2), .int (0 : Int32)])), ((u_6 1), .inl (cI, 20, .inl (fun _ => (0 : Int32)))), ((u_6 2), .inl (cI, 20, .inl (fun _ => (0 : Int32)))), (q_9, .inl (cI, 6, .inl (fun _ => (0 : Int32))))] H locs := X
  refine W.widen (k := 7) (n := 92) (Nat.le_of_ble_eq_true rfl) (Nat.le_of_ble_eq_true rfl) ?_
  refine x_putF (own := RX9) (T := TX9) C X 0 rfl rfl 3 (by decide) k_6_19 rfl rfl rfl hin rfl (ty := (tyX9 3)) (v := .ref q_9) (by decide +kernel) rfl rfl (Nat.le_of_ble_eq_true rfl) dX9_init_31 (fun H locs X => ?_)
  have X : Wd D A s [(h0, .inr (9, [.null, .ref q_1, .ref q_5, .ref q_9])), (q_1, .inr (5, [.ref (u_2 1), .ref (u_2 2), .int (0 : Int32)])), ((u_2 1), .inl (cI, 20, .inl (fun _ => (0 : Int32)))), ((u_2 2), .inl (cI, 20, .inl (fun _ => (0 : Int32)))), (q_5, .inr (5, [.ref (u_6 1), .ref (u_6 2), .int (0 : Int32)])), ((u_6 1), .inl (cI, 20, .inl (fun _ => (0 : Int32)))), ((u_6 2), .inl (cI, 20, .inl (fun _ => (0 : Int32)))), (q_9, .inl (cI, 6, .inl (fun _ => (0 : Int32))))] H locs := X
  refine lv_aload_n hx hb dX9_init_34 rfl (lv_at hl 0 rfl) ?_
  refine lv_aload_n hx hb dX9_init_35 rfl (lv_at hl 1 rfl) ?_
  refine x_putF (own := RX9) (T := TX9) C X 0 rfl rfl 0 (by decide) k_6_20 rfl rfl rfl hin rfl (ty := (tyX9 0)) (v := .ref wa) (by decide +kernel) rfl rfl (Nat.le_of_ble_eq_true rfl) dX9_init_36 (fun H locs X => ?_)
  have X : Wd D A s [(h0, .inr (9, [.ref wa, .ref q_1, .ref q_5, .ref q_9])), (q_1, .inr (5, [.ref (u_2 1), .ref (u_2 2), .int (0 : Int32)])), ((u_2 1), .inl (cI, 20, .inl (fun _ => (0 : Int32)))), ((u_2 2), .inl (cI, 20, .inl (fun _ => (0 : Int32)))), (q_5, .inr (5, [.ref (u_6 1), .ref (u_6 2), .int (0 : Int32)])), ((u_6 1), .inl (cI, 20, .inl (fun _ => (0 : Int32)))), ((u_6 2), .inl (cI, 20, .inl (fun _ => (0 : Int32)))), (q_9, .inl (cI, 6, .inl (fun _ => (0 : Int32))))] H locs := X
  exact x_vret C X hr hlk (fun k => ([h0, q_1, (u_2 1), (u_2 2), q_5, (u_6 1), (u_6 2), q_9] : List Nat).getD k 0) [0, 1, 2, 3, 4, 5, 6, 7] (by decide) rfl (trivial) (Nat.le_of_ble_eq_true rfl) (Nat.le_of_ble_eq_true rfl) dX9_init_39
set_option maxHeartbeats 4000000 in
set_option maxRecDepth 100000 in
theorem c_Stand_init (l : Launch) (D : va_G) (cI cJ cZ cB : ClassId) (cO : ClassId) (h0 wa : Nat) :
    CV l D [(cI, .int), (cJ, .long), (cZ, .boolean), (cB, .byte), (cO, .object "LuckLinks$World")] yX7_init cX7_init 2 ({ frames := 2, cells := 4, slots := 63, locals := 40 } : Room) [.ref h0, .ref wa] [(h0, .inr (7, [.null, .null, .null]))] (fun (u : (Nat → Nat)) => match u with | u => (True)) (fun (u : (Nat → Nat)) => match u with | u => [(h0, .inr (7, [.ref wa, .ref (u 1), .ref (u 4)])), ((u 1), .inr (5, [.ref (u 2), .ref (u 3), .int (0 : Int32)])), ((u 2), .inl (cI, 20, .inl (fun _ => (0 : Int32)))), ((u 3), .inl (cI, 20, .inl (fun _ => (0 : Int32)))), ((u 4), .inl (cI, 20, .inl (fun _ => (0 : Int32))))]) := by
  intro sz
  refine body_of (y := yX7_init) (cc := cX7_init) (maxL := 2) (ret := none) (rm := ({ frames := 2, cells := 4, slots := 63, locals := 40 } : Room)) (wc := [(h0, .inr (7, [.null, .null, .null]))]) (tys := [(cI, .int), (cJ, .long), (cZ, .boolean), (cB, .byte), (cO, .object "LuckLinks$World")]) (D := D) (sz := sz) (own := RX7) (av := [.ref h0, .ref wa]) (Qc := fun A => va_Qv (fun (u : (Nat → Nat)) => match u with | u => (True)) (fun u t => Aft D A ((fun (u : (Nat → Nat)) => match u with | u => [(h0, .inr (7, [.ref wa, .ref (u 1), .ref (u 4)])), ((u 1), .inr (5, [.ref (u 2), .ref (u 3), .int (0 : Int32)])), ((u 2), .inl (cI, 20, .inl (fun _ => (0 : Int32)))), ((u 3), .inl (cI, 20, .inl (fun _ => (0 : Int32)))), ((u 4), .inl (cI, 20, .inl (fun _ => (0 : Int32))))]) u) t) A) (by decide) rfl (Nat.le_of_ble_eq_true rfl) (fun p e s m below meth c A ls C hr hlk hin X hl => ?_)
  have hx := C.1
  have hb := C.2.1
  have hown := C.2.2.2.1
  have hts := C.2.2.2.2.1
  have hl : lv_has ls 2 [(0, .ref h0), (1, .ref wa)] := hl
  show W p l e _ s m _ below meth c s.heap [] 0 0 (MQ below (va_Qv (fun (u : (Nat → Nat)) => match u with | u => (True)) (fun u t => Aft D A ((fun (u : (Nat → Nat)) => match u with | u => [(h0, .inr (7, [.ref wa, .ref (u 1), .ref (u 4)])), ((u 1), .inr (5, [.ref (u 2), .ref (u 3), .int (0 : Int32)])), ((u 2), .inl (cI, 20, .inl (fun _ => (0 : Int32)))), ((u 3), .inl (cI, 20, .inl (fun _ => (0 : Int32)))), ((u 4), .inl (cI, 20, .inl (fun _ => (0 : Int32))))]) u) t) A) ([.ref h0, .ref wa] : List Value).toArray s 4 63 A) (F0 m 0 ls [])
  have X : Wd D A s [(h0, .inr (7, [.null, .null, .null]))] s.heap [] := X
  obtain ⟨H, locs, eH, eL⟩ : ∃ H locs, H = s.heap ∧ locs = ([] : List Loc) := ⟨_, _, rfl, rfl⟩
  rw [← eH, ← eL] at X ⊢
  clear eH eL
  refine lv_aload_n hx hb dX7_init_0 rfl (lv_at hl 0 rfl) ?_
  refine x_objInit (own := RX7) C hl.1 k_7_7 k_1_10 k_1_11 dX7_init_1 (Nat.le_of_ble_eq_true rfl) (Nat.le_of_ble_eq_true rfl) ?_
  refine lv_aload_n hx hb dX7_init_4 rfl (lv_at hl 0 rfl) ?_
  refine x_new (own := RX7) (ci := 5) (fs := [.null, .null, .int (0 : Int32)]) C X rfl tyX5 tyX5_ok k_7_8 k_6_15 k_6_16 (fun j hj => by match j, hj with | 0, _ => rfl | 1, _ => rfl | 2, _ => rfl | j + 3, h => exact absurd h (by omega)) (Nat.le_of_ble_eq_true rfl) (Nat.le_of_ble_eq_true rfl) dX7_init_5 (fun q_1 H X => ?_)
  have X : Wd D A s [(h0, .inr (7, [.null, .null, .null])), (q_1, .inr (5, [.null, .null, .int (0 : Int32)]))] H locs := X
  refine W.widen (k := 1) (n := 3) (Nat.le_of_ble_eq_true rfl) (Nat.le_of_ble_eq_true rfl) ?_
  refine lv_dup hx hb dX7_init_8 rfl ?_
  refine x_cI (own := RX7) (wr := [(h0, .inr (7, [.null, .null, .null]))]) (As := []) C X hl.1 (c_Rank_init l D cI cJ cZ cB cO q_1) [1] [0] ⟨rfl, rfl, by decide, by decide, by decide⟩ k_7_12 k_6_22 k_6_16 k_6_23 rfl (n := 0) (by decide +kernel) ⟨Nat.le_of_ble_eq_true rfl, Nat.le_of_ble_eq_true rfl⟩ rfl rfl (Nat.le_of_ble_eq_true rfl) dX7_init_9 ⟨Nat.le_of_ble_eq_true rfl, Nat.le_of_ble_eq_true rfl⟩ (fun u_2 H locs w_4 X => ?_)
  have X : Wd D A s [(h0, .inr (7, [.null, .null, .null])), (q_1, .inr (5, [.ref (u_2 1), .ref (u_2 2), .int (0 : Int32)])), ((u_2 1), .inl (cI, 20, .inl (fun _ => (0 : Int32)))), ((u_2 2), .inl (cI, 20, .inl (fun _ => (0 : Int32))))] H locs := X
  refine W.widen (k := 3) (n := 43) (Nat.le_of_ble_eq_true rfl) (Nat.le_of_ble_eq_true rfl) ?_
  refine x_putF (own := RX7) (T := TX7) C X 0 rfl rfl 1 (by decide) k_7_9 rfl rfl rfl hin rfl (ty := (tyX7 1)) (v := .ref q_1) (by decide +kernel) rfl rfl (Nat.le_of_ble_eq_true rfl) dX7_init_12 (fun H locs X => ?_)
  have X : Wd D A s [(h0, .inr (7, [.null, .ref q_1, .null])), (q_1, .inr (5, [.ref (u_2 1), .ref (u_2 2), .int (0 : Int32)])), ((u_2 1), .inl (cI, 20, .inl (fun _ => (0 : Int32)))), ((u_2 2), .inl (cI, 20, .inl (fun _ => (0 : Int32))))] H locs := X
  refine lv_aload_n hx hb dX7_init_15 rfl (lv_at hl 0 rfl) ?_
  refine lv_bipush (v := (20 : Int32)) hx hb dX7_init_16 (by decide) ?_
  refine x_newa (own := RX7) (atype := .int) (ty := .int) (N' := 20) (a0 := (20, .inl (fun _ => (0 : Int32)))) C X rfl k_2_7 0 rfl rfl (fun _ => rfl) (by decide) (by decide) (Nat.le_of_ble_eq_true rfl) (Nat.le_of_ble_eq_true rfl) (Nat.le_of_ble_eq_true rfl) dX7_init_18 (fun q_5 H X => ?_)
  have X : Wd D A s [(h0, .inr (7, [.null, .ref q_1, .null])), (q_1, .inr (5, [.ref (u_2 1), .ref (u_2 2), .int (0 : Int32)])), ((u_2 1), .inl (cI, 20, .inl (fun _ => (0 : Int32)))), ((u_2 2), .inl (cI, 20, .inl (fun _ => (0 : Int32)))), (q_5, .inl (cI, 20, .inl (fun _ => (0 : Int32))))] H locs := X
  refine W.widen (k := 4) (n := 63) (Nat.le_of_ble_eq_true rfl) (Nat.le_of_ble_eq_true rfl) ?_
  refine x_putF (own := RX7) (T := TX7) C X 0 rfl rfl 2 (by decide) k_7_10 rfl rfl rfl hin rfl (ty := (tyX7 2)) (v := .ref q_5) (by decide +kernel) rfl rfl (Nat.le_of_ble_eq_true rfl) dX7_init_20 (fun H locs X => ?_)
  have X : Wd D A s [(h0, .inr (7, [.null, .ref q_1, .ref q_5])), (q_1, .inr (5, [.ref (u_2 1), .ref (u_2 2), .int (0 : Int32)])), ((u_2 1), .inl (cI, 20, .inl (fun _ => (0 : Int32)))), ((u_2 2), .inl (cI, 20, .inl (fun _ => (0 : Int32)))), (q_5, .inl (cI, 20, .inl (fun _ => (0 : Int32))))] H locs := X
  refine lv_aload_n hx hb dX7_init_23 rfl (lv_at hl 0 rfl) ?_
  refine lv_aload_n hx hb dX7_init_24 rfl (lv_at hl 1 rfl) ?_
  refine x_putF (own := RX7) (T := TX7) C X 0 rfl rfl 0 (by decide) k_7_11 rfl rfl rfl hin rfl (ty := (tyX7 0)) (v := .ref wa) (by decide +kernel) rfl rfl (Nat.le_of_ble_eq_true rfl) dX7_init_25 (fun H locs X => ?_)
  have X : Wd D A s [(h0, .inr (7, [.ref wa, .ref q_1, .ref q_5])), (q_1, .inr (5, [.ref (u_2 1), .ref (u_2 2), .int (0 : Int32)])), ((u_2 1), .inl (cI, 20, .inl (fun _ => (0 : Int32)))), ((u_2 2), .inl (cI, 20, .inl (fun _ => (0 : Int32)))), (q_5, .inl (cI, 20, .inl (fun _ => (0 : Int32))))] H locs := X
  exact x_vret C X hr hlk (fun k => ([h0, q_1, (u_2 1), (u_2 2), q_5] : List Nat).getD k 0) [0, 1, 2, 3, 4] (by decide) rfl (trivial) (Nat.le_of_ble_eq_true rfl) (Nat.le_of_ble_eq_true rfl) dX7_init_28
set_option maxHeartbeats 4000000 in
set_option maxRecDepth 100000 in
theorem c_Form_init (l : Launch) (D : va_G) (cI cJ cZ cB : ClassId) (cO : ClassId) (h0 wa : Nat) :
    CV l D [(cI, .int), (cJ, .long), (cZ, .boolean), (cB, .byte), (cO, .object "LuckLinks$World")] yX1_init cX1_init 2 ({ frames := 1, cells := 2, slots := 1600, locals := 20 } : Room) [.ref h0, .ref wa] [(h0, .inr (1, [.null, .null, .null, .long (0 : Int64), .long (0 : Int64)]))] (fun (u : (Nat → Nat)) => match u with | u => (True)) (fun (u : (Nat → Nat)) => match u with | u => [(h0, .inr (1, [.ref wa, .ref (u 1), .ref (u 2), .long (0 : Int64), .long (0 : Int64)])), ((u 1), .inl (cJ, 800, .inr (.inl (fun _ => (0 : Int64))))), ((u 2), .inl (cI, 800, .inl (fun _ => (0 : Int32))))]) := by
  intro sz
  refine body_of (y := yX1_init) (cc := cX1_init) (maxL := 2) (ret := none) (rm := ({ frames := 1, cells := 2, slots := 1600, locals := 20 } : Room)) (wc := [(h0, .inr (1, [.null, .null, .null, .long (0 : Int64), .long (0 : Int64)]))]) (tys := [(cI, .int), (cJ, .long), (cZ, .boolean), (cB, .byte), (cO, .object "LuckLinks$World")]) (D := D) (sz := sz) (own := RX1) (av := [.ref h0, .ref wa]) (Qc := fun A => va_Qv (fun (u : (Nat → Nat)) => match u with | u => (True)) (fun u t => Aft D A ((fun (u : (Nat → Nat)) => match u with | u => [(h0, .inr (1, [.ref wa, .ref (u 1), .ref (u 2), .long (0 : Int64), .long (0 : Int64)])), ((u 1), .inl (cJ, 800, .inr (.inl (fun _ => (0 : Int64))))), ((u 2), .inl (cI, 800, .inl (fun _ => (0 : Int32))))]) u) t) A) (by decide) rfl (Nat.le_of_ble_eq_true rfl) (fun p e s m below meth c A ls C hr hlk hin X hl => ?_)
  have hx := C.1
  have hb := C.2.1
  have hown := C.2.2.2.1
  have hts := C.2.2.2.2.1
  have hl : lv_has ls 2 [(0, .ref h0), (1, .ref wa)] := hl
  show W p l e _ s m _ below meth c s.heap [] 0 0 (MQ below (va_Qv (fun (u : (Nat → Nat)) => match u with | u => (True)) (fun u t => Aft D A ((fun (u : (Nat → Nat)) => match u with | u => [(h0, .inr (1, [.ref wa, .ref (u 1), .ref (u 2), .long (0 : Int64), .long (0 : Int64)])), ((u 1), .inl (cJ, 800, .inr (.inl (fun _ => (0 : Int64))))), ((u 2), .inl (cI, 800, .inl (fun _ => (0 : Int32))))]) u) t) A) ([.ref h0, .ref wa] : List Value).toArray s 2 1600 A) (F0 m 0 ls [])
  have X : Wd D A s [(h0, .inr (1, [.null, .null, .null, .long (0 : Int64), .long (0 : Int64)]))] s.heap [] := X
  obtain ⟨H, locs, eH, eL⟩ : ∃ H locs, H = s.heap ∧ locs = ([] : List Loc) := ⟨_, _, rfl, rfl⟩
  rw [← eH, ← eL] at X ⊢
  clear eH eL
  refine lv_aload_n hx hb dX1_init_0 rfl (lv_at hl 0 rfl) ?_
  refine x_objInit (own := RX1) C hl.1 k_7_16 k_1_10 k_1_11 dX1_init_1 (Nat.le_of_ble_eq_true rfl) (Nat.le_of_ble_eq_true rfl) ?_
  refine lv_aload_n hx hb dX1_init_4 rfl (lv_at hl 0 rfl) ?_
  refine lv_sipush (v := (800 : Int32)) hx hb dX1_init_5 (by decide) ?_
  refine x_newa (own := RX1) (atype := .long) (ty := .long) (N' := 800) (a0 := (800, .inr (.inl (fun _ => (0 : Int64))))) C X rfl k_7_17 1 rfl rfl (fun _ => rfl) (by decide) (by decide) (Nat.le_of_ble_eq_true rfl) (Nat.le_of_ble_eq_true rfl) (Nat.le_of_ble_eq_true rfl) dX1_init_8 (fun q_1 H X => ?_)
  have X : Wd D A s [(h0, .inr (1, [.null, .null, .null, .long (0 : Int64), .long (0 : Int64)])), (q_1, .inl (cJ, 800, .inr (.inl (fun _ => (0 : Int64)))))] H locs := X
  refine W.widen (k := 1) (n := 800) (Nat.le_of_ble_eq_true rfl) (Nat.le_of_ble_eq_true rfl) ?_
  refine x_putF (own := RX1) (T := TX1) C X 0 rfl rfl 1 (by decide) k_7_18 rfl rfl rfl hin rfl (ty := (tyX1 1)) (v := .ref q_1) (by decide +kernel) rfl rfl (Nat.le_of_ble_eq_true rfl) dX1_init_10 (fun H locs X => ?_)
  have X : Wd D A s [(h0, .inr (1, [.null, .ref q_1, .null, .long (0 : Int64), .long (0 : Int64)])), (q_1, .inl (cJ, 800, .inr (.inl (fun _ => (0 : Int64)))))] H locs := X
  refine lv_aload_n hx hb dX1_init_13 rfl (lv_at hl 0 rfl) ?_
  refine lv_sipush (v := (800 : Int32)) hx hb dX1_init_14 (by decide) ?_
  refine x_newa (own := RX1) (atype := .int) (ty := .int) (N' := 800) (a0 := (800, .inl (fun _ => (0 : Int32)))) C X rfl k_2_7 0 rfl rfl (fun _ => rfl) (by decide) (by decide) (Nat.le_of_ble_eq_true rfl) (Nat.le_of_ble_eq_true rfl) (Nat.le_of_ble_eq_true rfl) dX1_init_17 (fun q_2 H X => ?_)
  have X : Wd D A s [(h0, .inr (1, [.null, .ref q_1, .null, .long (0 : Int64), .long (0 : Int64)])), (q_1, .inl (cJ, 800, .inr (.inl (fun _ => (0 : Int64))))), (q_2, .inl (cI, 800, .inl (fun _ => (0 : Int32))))] H locs := X
  refine W.widen (k := 2) (n := 1600) (Nat.le_of_ble_eq_true rfl) (Nat.le_of_ble_eq_true rfl) ?_
  refine x_putF (own := RX1) (T := TX1) C X 0 rfl rfl 2 (by decide) k_7_19 rfl rfl rfl hin rfl (ty := (tyX1 2)) (v := .ref q_2) (by decide +kernel) rfl rfl (Nat.le_of_ble_eq_true rfl) dX1_init_19 (fun H locs X => ?_)
  have X : Wd D A s [(h0, .inr (1, [.null, .ref q_1, .ref q_2, .long (0 : Int64), .long (0 : Int64)])), (q_1, .inl (cJ, 800, .inr (.inl (fun _ => (0 : Int64))))), (q_2, .inl (cI, 800, .inl (fun _ => (0 : Int32))))] H locs := X
  refine lv_aload_n hx hb dX1_init_22 rfl (lv_at hl 0 rfl) ?_
  refine lv_lconst (v := (0 : Int64)) hx hb dX1_init_23 (by decide) ?_
  refine x_put (own := RX1) (T := TX1) C X 0 rfl rfl 3 (by decide) k_7_20 rfl rfl rfl (ty := .long) (v := .long (0 : Int64)) (by decide +kernel) rfl rfl (Nat.le_of_ble_eq_true rfl) dX1_init_24 (fun H locs X => ?_)
  have X : Wd D A s [(h0, .inr (1, [.null, .ref q_1, .ref q_2, .long (0 : Int64), .long (0 : Int64)])), (q_1, .inl (cJ, 800, .inr (.inl (fun _ => (0 : Int64))))), (q_2, .inl (cI, 800, .inl (fun _ => (0 : Int32))))] H locs := X
  refine lv_aload_n hx hb dX1_init_27 rfl (lv_at hl 0 rfl) ?_
  refine lv_lconst (v := (0 : Int64)) hx hb dX1_init_28 (by decide) ?_
  refine x_put (own := RX1) (T := TX1) C X 0 rfl rfl 4 (by decide) k_7_21 rfl rfl rfl (ty := .long) (v := .long (0 : Int64)) (by decide +kernel) rfl rfl (Nat.le_of_ble_eq_true rfl) dX1_init_29 (fun H locs X => ?_)
  have X : Wd D A s [(h0, .inr (1, [.null, .ref q_1, .ref q_2, .long (0 : Int64), .long (0 : Int64)])), (q_1, .inl (cJ, 800, .inr (.inl (fun _ => (0 : Int64))))), (q_2, .inl (cI, 800, .inl (fun _ => (0 : Int32))))] H locs := X
  refine lv_aload_n hx hb dX1_init_32 rfl (lv_at hl 0 rfl) ?_
  refine lv_aload_n hx hb dX1_init_33 rfl (lv_at hl 1 rfl) ?_
  refine x_putF (own := RX1) (T := TX1) C X 0 rfl rfl 0 (by decide) k_7_22 rfl rfl rfl hin rfl (ty := (tyX1 0)) (v := .ref wa) (by decide +kernel) rfl rfl (Nat.le_of_ble_eq_true rfl) dX1_init_34 (fun H locs X => ?_)
  have X : Wd D A s [(h0, .inr (1, [.ref wa, .ref q_1, .ref q_2, .long (0 : Int64), .long (0 : Int64)])), (q_1, .inl (cJ, 800, .inr (.inl (fun _ => (0 : Int64))))), (q_2, .inl (cI, 800, .inl (fun _ => (0 : Int32))))] H locs := X
  exact x_vret C X hr hlk (fun k => ([h0, q_1, q_2] : List Nat).getD k 0) [0, 1, 2] (by decide) rfl (trivial) (Nat.le_of_ble_eq_true rfl) (Nat.le_of_ble_eq_true rfl) dX1_init_37
set_option maxHeartbeats 4000000 in
set_option maxRecDepth 100000 in
theorem c_Half_init (l : Launch) (D : va_G) (cI cJ cZ cB : ClassId) (cO : ClassId) (h0 wa : Nat) :
    CV l D [(cI, .int), (cJ, .long), (cZ, .boolean), (cB, .byte), (cO, .object "LuckLinks$World")] yX2_init cX2_init 2 ({ frames := 1, cells := 4, slots := 80, locals := 20 } : Room) [.ref h0, .ref wa] [(h0, .inr (2, [.null, .null, .null, .null, .null, .int (0 : Int32), .int (0 : Int32), .int (0 : Int32)]))] (fun (u : (Nat → Nat)) => match u with | u => (True)) (fun (u : (Nat → Nat)) => match u with | u => [(h0, .inr (2, [.ref wa, .ref (u 1), .ref (u 2), .ref (u 3), .ref (u 4), .int (0 : Int32), .int (0 : Int32), .int (0 : Int32)])), ((u 1), .inl (cJ, 20, .inr (.inl (fun _ => (0 : Int64))))), ((u 2), .inl (cJ, 20, .inr (.inl (fun _ => (0 : Int64))))), ((u 3), .inl (cJ, 20, .inr (.inl (fun _ => (0 : Int64))))), ((u 4), .inl (cJ, 20, .inr (.inl (fun _ => (0 : Int64)))))]) := by
  intro sz
  refine body_of (y := yX2_init) (cc := cX2_init) (maxL := 2) (ret := none) (rm := ({ frames := 1, cells := 4, slots := 80, locals := 20 } : Room)) (wc := [(h0, .inr (2, [.null, .null, .null, .null, .null, .int (0 : Int32), .int (0 : Int32), .int (0 : Int32)]))]) (tys := [(cI, .int), (cJ, .long), (cZ, .boolean), (cB, .byte), (cO, .object "LuckLinks$World")]) (D := D) (sz := sz) (own := RX2) (av := [.ref h0, .ref wa]) (Qc := fun A => va_Qv (fun (u : (Nat → Nat)) => match u with | u => (True)) (fun u t => Aft D A ((fun (u : (Nat → Nat)) => match u with | u => [(h0, .inr (2, [.ref wa, .ref (u 1), .ref (u 2), .ref (u 3), .ref (u 4), .int (0 : Int32), .int (0 : Int32), .int (0 : Int32)])), ((u 1), .inl (cJ, 20, .inr (.inl (fun _ => (0 : Int64))))), ((u 2), .inl (cJ, 20, .inr (.inl (fun _ => (0 : Int64))))), ((u 3), .inl (cJ, 20, .inr (.inl (fun _ => (0 : Int64))))), ((u 4), .inl (cJ, 20, .inr (.inl (fun _ => (0 : Int64)))))]) u) t) A) (by decide) rfl (Nat.le_of_ble_eq_true rfl) (fun p e s m below meth c A ls C hr hlk hin X hl => ?_)
  have hx := C.1
  have hb := C.2.1
  have hown := C.2.2.2.1
  have hts := C.2.2.2.2.1
  have hl : lv_has ls 2 [(0, .ref h0), (1, .ref wa)] := hl
  show W p l e _ s m _ below meth c s.heap [] 0 0 (MQ below (va_Qv (fun (u : (Nat → Nat)) => match u with | u => (True)) (fun u t => Aft D A ((fun (u : (Nat → Nat)) => match u with | u => [(h0, .inr (2, [.ref wa, .ref (u 1), .ref (u 2), .ref (u 3), .ref (u 4), .int (0 : Int32), .int (0 : Int32), .int (0 : Int32)])), ((u 1), .inl (cJ, 20, .inr (.inl (fun _ => (0 : Int64))))), ((u 2), .inl (cJ, 20, .inr (.inl (fun _ => (0 : Int64))))), ((u 3), .inl (cJ, 20, .inr (.inl (fun _ => (0 : Int64))))), ((u 4), .inl (cJ, 20, .inr (.inl (fun _ => (0 : Int64)))))]) u) t) A) ([.ref h0, .ref wa] : List Value).toArray s 4 80 A) (F0 m 0 ls [])
  have X : Wd D A s [(h0, .inr (2, [.null, .null, .null, .null, .null, .int (0 : Int32), .int (0 : Int32), .int (0 : Int32)]))] s.heap [] := X
  obtain ⟨H, locs, eH, eL⟩ : ∃ H locs, H = s.heap ∧ locs = ([] : List Loc) := ⟨_, _, rfl, rfl⟩
  rw [← eH, ← eL] at X ⊢
  clear eH eL
  refine lv_aload_n hx hb dX2_init_0 rfl (lv_at hl 0 rfl) ?_
  refine x_objInit (own := RX2) C hl.1 k_8_2 k_1_10 k_1_11 dX2_init_1 (Nat.le_of_ble_eq_true rfl) (Nat.le_of_ble_eq_true rfl) ?_
  refine lv_aload_n hx hb dX2_init_4 rfl (lv_at hl 0 rfl) ?_
  refine lv_bipush (v := (20 : Int32)) hx hb dX2_init_5 (by decide) ?_
  refine x_newa (own := RX2) (atype := .long) (ty := .long) (N' := 20) (a0 := (20, .inr (.inl (fun _ => (0 : Int64))))) C X rfl k_7_17 1 rfl rfl (fun _ => rfl) (by decide) (by decide) (Nat.le_of_ble_eq_true rfl) (Nat.le_of_ble_eq_true rfl) (Nat.le_of_ble_eq_true rfl) dX2_init_7 (fun q_1 H X => ?_)
  have X : Wd D A s [(h0, .inr (2, [.null, .null, .null, .null, .null, .int (0 : Int32), .int (0 : Int32), .int (0 : Int32)])), (q_1, .inl (cJ, 20, .inr (.inl (fun _ => (0 : Int64)))))] H locs := X
  refine W.widen (k := 1) (n := 20) (Nat.le_of_ble_eq_true rfl) (Nat.le_of_ble_eq_true rfl) ?_
  refine x_putF (own := RX2) (T := TX2) C X 0 rfl rfl 1 (by decide) k_8_3 rfl rfl rfl hin rfl (ty := (tyX2 1)) (v := .ref q_1) (by decide +kernel) rfl rfl (Nat.le_of_ble_eq_true rfl) dX2_init_9 (fun H locs X => ?_)
  have X : Wd D A s [(h0, .inr (2, [.null, .ref q_1, .null, .null, .null, .int (0 : Int32), .int (0 : Int32), .int (0 : Int32)])), (q_1, .inl (cJ, 20, .inr (.inl (fun _ => (0 : Int64)))))] H locs := X
  refine lv_aload_n hx hb dX2_init_12 rfl (lv_at hl 0 rfl) ?_
  refine lv_bipush (v := (20 : Int32)) hx hb dX2_init_13 (by decide) ?_
  refine x_newa (own := RX2) (atype := .long) (ty := .long) (N' := 20) (a0 := (20, .inr (.inl (fun _ => (0 : Int64))))) C X rfl k_7_17 1 rfl rfl (fun _ => rfl) (by decide) (by decide) (Nat.le_of_ble_eq_true rfl) (Nat.le_of_ble_eq_true rfl) (Nat.le_of_ble_eq_true rfl) dX2_init_15 (fun q_2 H X => ?_)
  have X : Wd D A s [(h0, .inr (2, [.null, .ref q_1, .null, .null, .null, .int (0 : Int32), .int (0 : Int32), .int (0 : Int32)])), (q_1, .inl (cJ, 20, .inr (.inl (fun _ => (0 : Int64))))), (q_2, .inl (cJ, 20, .inr (.inl (fun _ => (0 : Int64)))))] H locs := X
  refine W.widen (k := 2) (n := 40) (Nat.le_of_ble_eq_true rfl) (Nat.le_of_ble_eq_true rfl) ?_
  refine x_putF (own := RX2) (T := TX2) C X 0 rfl rfl 2 (by decide) k_8_4 rfl rfl rfl hin rfl (ty := (tyX2 2)) (v := .ref q_2) (by decide +kernel) rfl rfl (Nat.le_of_ble_eq_true rfl) dX2_init_17 (fun H locs X => ?_)
  have X : Wd D A s [(h0, .inr (2, [.null, .ref q_1, .ref q_2, .null, .null, .int (0 : Int32), .int (0 : Int32), .int (0 : Int32)])), (q_1, .inl (cJ, 20, .inr (.inl (fun _ => (0 : Int64))))), (q_2, .inl (cJ, 20, .inr (.inl (fun _ => (0 : Int64)))))] H locs := X
  refine lv_aload_n hx hb dX2_init_20 rfl (lv_at hl 0 rfl) ?_
  refine lv_bipush (v := (20 : Int32)) hx hb dX2_init_21 (by decide) ?_
  refine x_newa (own := RX2) (atype := .long) (ty := .long) (N' := 20) (a0 := (20, .inr (.inl (fun _ => (0 : Int64))))) C X rfl k_7_17 1 rfl rfl (fun _ => rfl) (by decide) (by decide) (Nat.le_of_ble_eq_true rfl) (Nat.le_of_ble_eq_true rfl) (Nat.le_of_ble_eq_true rfl) dX2_init_23 (fun q_3 H X => ?_)
  have X : Wd D A s [(h0, .inr (2, [.null, .ref q_1, .ref q_2, .null, .null, .int (0 : Int32), .int (0 : Int32), .int (0 : Int32)])), (q_1, .inl (cJ, 20, .inr (.inl (fun _ => (0 : Int64))))), (q_2, .inl (cJ, 20, .inr (.inl (fun _ => (0 : Int64))))), (q_3, .inl (cJ, 20, .inr (.inl (fun _ => (0 : Int64)))))] H locs := X
  refine W.widen (k := 3) (n := 60) (Nat.le_of_ble_eq_true rfl) (Nat.le_of_ble_eq_true rfl) ?_
  refine x_putF (own := RX2) (T := TX2) C X 0 rfl rfl 3 (by decide) k_8_5 rfl rfl rfl hin rfl (ty := (tyX2 3)) (v := .ref q_3) (by decide +kernel) rfl rfl (Nat.le_of_ble_eq_true rfl) dX2_init_25 (fun H locs X => ?_)
  have X : Wd D A s [(h0, .inr (2, [.null, .ref q_1, .ref q_2, .ref q_3, .null, .int (0 : Int32), .int (0 : Int32), .int (0 : Int32)])), (q_1, .inl (cJ, 20, .inr (.inl (fun _ => (0 : Int64))))), (q_2, .inl (cJ, 20, .inr (.inl (fun _ => (0 : Int64))))), (q_3, .inl (cJ, 20, .inr (.inl (fun _ => (0 : Int64)))))] H locs := X
  refine lv_aload_n hx hb dX2_init_28 rfl (lv_at hl 0 rfl) ?_
  refine lv_bipush (v := (20 : Int32)) hx hb dX2_init_29 (by decide) ?_
  refine x_newa (own := RX2) (atype := .long) (ty := .long) (N' := 20) (a0 := (20, .inr (.inl (fun _ => (0 : Int64))))) C X rfl k_7_17 1 rfl rfl (fun _ => rfl) (by decide) (by decide) (Nat.le_of_ble_eq_true rfl) (Nat.le_of_ble_eq_true rfl) (Nat.le_of_ble_eq_true rfl) dX2_init_31 (fun q_4 H X => ?_)
  have X : Wd D A s [(h0, .inr (2, [.null, .ref q_1, .ref q_2, .ref q_3, .null, .int (0 : Int32), .int (0 : Int32), .int (0 : Int32)])), (q_1, .inl (cJ, 20, .inr (.inl (fun _ => (0 : Int64))))), (q_2, .inl (cJ, 20, .inr (.inl (fun _ => (0 : Int64))))), (q_3, .inl (cJ, 20, .inr (.inl (fun _ => (0 : Int64))))), (q_4, .inl (cJ, 20, .inr (.inl (fun _ => (0 : Int64)))))] H locs := X
  refine W.widen (k := 4) (n := 80) (Nat.le_of_ble_eq_true rfl) (Nat.le_of_ble_eq_true rfl) ?_
  refine x_putF (own := RX2) (T := TX2) C X 0 rfl rfl 4 (by decide) k_8_6 rfl rfl rfl hin rfl (ty := (tyX2 4)) (v := .ref q_4) (by decide +kernel) rfl rfl (Nat.le_of_ble_eq_true rfl) dX2_init_33 (fun H locs X => ?_)
  have X : Wd D A s [(h0, .inr (2, [.null, .ref q_1, .ref q_2, .ref q_3, .ref q_4, .int (0 : Int32), .int (0 : Int32), .int (0 : Int32)])), (q_1, .inl (cJ, 20, .inr (.inl (fun _ => (0 : Int64))))), (q_2, .inl (cJ, 20, .inr (.inl (fun _ => (0 : Int64))))), (q_3, .inl (cJ, 20, .inr (.inl (fun _ => (0 : Int64))))), (q_4, .inl (cJ, 20, .inr (.inl (fun _ => (0 : Int64)))))] H locs := X
  refine lv_aload_n hx hb dX2_init_36 rfl (lv_at hl 0 rfl) ?_
  refine lv_iconst (v := (0 : Int32)) hx hb dX2_init_37 (by decide) ?_
  refine x_put (own := RX2) (T := TX2) C X 0 rfl rfl 5 (by decide) k_8_7 rfl rfl rfl (ty := .int) (v := .int (0 : Int32)) (by decide +kernel) rfl rfl (Nat.le_of_ble_eq_true rfl) dX2_init_38 (fun H locs X => ?_)
  have X : Wd D A s [(h0, .inr (2, [.null, .ref q_1, .ref q_2, .ref q_3, .ref q_4, .int (0 : Int32), .int (0 : Int32), .int (0 : Int32)])), (q_1, .inl (cJ, 20, .inr (.inl (fun _ => (0 : Int64))))), (q_2, .inl (cJ, 20, .inr (.inl (fun _ => (0 : Int64))))), (q_3, .inl (cJ, 20, .inr (.inl (fun _ => (0 : Int64))))), (q_4, .inl (cJ, 20, .inr (.inl (fun _ => (0 : Int64)))))] H locs := X
  refine lv_aload_n hx hb dX2_init_41 rfl (lv_at hl 0 rfl) ?_
  refine lv_iconst (v := (0 : Int32)) hx hb dX2_init_42 (by decide) ?_
  refine x_put (own := RX2) (T := TX2) C X 0 rfl rfl 6 (by decide) k_8_8 rfl rfl rfl (ty := .int) (v := .int (0 : Int32)) (by decide +kernel) rfl rfl (Nat.le_of_ble_eq_true rfl) dX2_init_43 (fun H locs X => ?_)
  have X : Wd D A s [(h0, .inr (2, [.null, .ref q_1, .ref q_2, .ref q_3, .ref q_4, .int (0 : Int32), .int (0 : Int32), .int (0 : Int32)])), (q_1, .inl (cJ, 20, .inr (.inl (fun _ => (0 : Int64))))), (q_2, .inl (cJ, 20, .inr (.inl (fun _ => (0 : Int64))))), (q_3, .inl (cJ, 20, .inr (.inl (fun _ => (0 : Int64))))), (q_4, .inl (cJ, 20, .inr (.inl (fun _ => (0 : Int64)))))] H locs := X
  refine lv_aload_n hx hb dX2_init_46 rfl (lv_at hl 0 rfl) ?_
  refine lv_iconst (v := (0 : Int32)) hx hb dX2_init_47 (by decide) ?_
  refine x_put (own := RX2) (T := TX2) C X 0 rfl rfl 7 (by decide) k_8_9 rfl rfl rfl (ty := .int) (v := .int (0 : Int32)) (by decide +kernel) rfl rfl (Nat.le_of_ble_eq_true rfl) dX2_init_48 (fun H locs X => ?_)
  have X : Wd D A s [(h0, .inr (2, [.null, .ref q_1, .ref q_2, .ref q_3, .ref q_4, .int (0 : Int32), .int (0 : Int32), .int (0 : Int32)])), (q_1, .inl (cJ, 20, .inr (.inl (fun _ => (0 : Int64))))), (q_2, .inl (cJ, 20, .inr (.inl (fun _ => (0 : Int64))))), (q_3, .inl (cJ, 20, .inr (.inl (fun _ => (0 : Int64))))), (q_4, .inl (cJ, 20, .inr (.inl (fun _ => (0 : Int64)))))] H locs := X
  refine lv_aload_n hx hb dX2_init_51 rfl (lv_at hl 0 rfl) ?_
  refine lv_aload_n hx hb dX2_init_52 rfl (lv_at hl 1 rfl) ?_
  refine x_putF (own := RX2) (T := TX2) C X 0 rfl rfl 0 (by decide) k_8_10 rfl rfl rfl hin rfl (ty := (tyX2 0)) (v := .ref wa) (by decide +kernel) rfl rfl (Nat.le_of_ble_eq_true rfl) dX2_init_53 (fun H locs X => ?_)
  have X : Wd D A s [(h0, .inr (2, [.ref wa, .ref q_1, .ref q_2, .ref q_3, .ref q_4, .int (0 : Int32), .int (0 : Int32), .int (0 : Int32)])), (q_1, .inl (cJ, 20, .inr (.inl (fun _ => (0 : Int64))))), (q_2, .inl (cJ, 20, .inr (.inl (fun _ => (0 : Int64))))), (q_3, .inl (cJ, 20, .inr (.inl (fun _ => (0 : Int64))))), (q_4, .inl (cJ, 20, .inr (.inl (fun _ => (0 : Int64)))))] H locs := X
  exact x_vret C X hr hlk (fun k => ([h0, q_1, q_2, q_3, q_4] : List Nat).getD k 0) [0, 1, 2, 3, 4] (by decide) rfl (trivial) (Nat.le_of_ble_eq_true rfl) (Nat.le_of_ble_eq_true rfl) dX2_init_56
set_option maxHeartbeats 4000000 in
set_option maxRecDepth 100000 in
theorem c_Chan_init (l : Launch) (D : va_G) (cI cJ cZ cB : ClassId) (cO : ClassId) (h0 : Nat) :
    CV l D [(cI, .int), (cJ, .long), (cZ, .boolean), (cB, .byte), (cO, .object "LuckLinks$World")] yX0_init cX0_init 1 ({ frames := 1, cells := 7, slots := 9027, locals := 20 } : Room) [.ref h0] [(h0, .inr (0, [.null, .null, .null, .null, .null, .null, .long (0 : Int64), .int (0 : Int32), .null]))] (fun (u : (Nat → Nat)) => match u with | u => (True)) (fun (u : (Nat → Nat)) => match u with | u => [(h0, .inr (0, [.ref (u 1), .ref (u 2), .ref (u 3), .ref (u 4), .ref (u 5), .ref (u 6), .long (0 : Int64), .int (0 : Int32), .ref (u 7)])), ((u 1), .inl (cJ, 73, .inr (.inl (fun _ => (0 : Int64))))), ((u 2), .inl (cJ, 73, .inr (.inl (fun _ => (0 : Int64))))), ((u 3), .inl (cJ, 74, .inr (.inl (fun _ => (0 : Int64))))), ((u 4), .inl (cJ, 145, .inr (.inl (fun _ => (0 : Int64))))), ((u 5), .inl (cJ, 4321, .inr (.inl (fun _ => (0 : Int64))))), ((u 6), .inl (cJ, 4321, .inr (.inl (fun _ => (0 : Int64))))), ((u 7), .inl (cI, 20, .inl (fun _ => (0 : Int32))))]) := by
  intro sz
  refine body_of (y := yX0_init) (cc := cX0_init) (maxL := 1) (ret := none) (rm := ({ frames := 1, cells := 7, slots := 9027, locals := 20 } : Room)) (wc := [(h0, .inr (0, [.null, .null, .null, .null, .null, .null, .long (0 : Int64), .int (0 : Int32), .null]))]) (tys := [(cI, .int), (cJ, .long), (cZ, .boolean), (cB, .byte), (cO, .object "LuckLinks$World")]) (D := D) (sz := sz) (own := RX0) (av := [.ref h0]) (Qc := fun A => va_Qv (fun (u : (Nat → Nat)) => match u with | u => (True)) (fun u t => Aft D A ((fun (u : (Nat → Nat)) => match u with | u => [(h0, .inr (0, [.ref (u 1), .ref (u 2), .ref (u 3), .ref (u 4), .ref (u 5), .ref (u 6), .long (0 : Int64), .int (0 : Int32), .ref (u 7)])), ((u 1), .inl (cJ, 73, .inr (.inl (fun _ => (0 : Int64))))), ((u 2), .inl (cJ, 73, .inr (.inl (fun _ => (0 : Int64))))), ((u 3), .inl (cJ, 74, .inr (.inl (fun _ => (0 : Int64))))), ((u 4), .inl (cJ, 145, .inr (.inl (fun _ => (0 : Int64))))), ((u 5), .inl (cJ, 4321, .inr (.inl (fun _ => (0 : Int64))))), ((u 6), .inl (cJ, 4321, .inr (.inl (fun _ => (0 : Int64))))), ((u 7), .inl (cI, 20, .inl (fun _ => (0 : Int32))))]) u) t) A) (by decide) rfl (Nat.le_of_ble_eq_true rfl) (fun p e s m below meth c A ls C hr hlk hin X hl => ?_)
  have hx := C.1
  have hb := C.2.1
  have hown := C.2.2.2.1
  have hts := C.2.2.2.2.1
  have hl : lv_has ls 1 [(0, .ref h0)] := hl
  show W p l e _ s m _ below meth c s.heap [] 0 0 (MQ below (va_Qv (fun (u : (Nat → Nat)) => match u with | u => (True)) (fun u t => Aft D A ((fun (u : (Nat → Nat)) => match u with | u => [(h0, .inr (0, [.ref (u 1), .ref (u 2), .ref (u 3), .ref (u 4), .ref (u 5), .ref (u 6), .long (0 : Int64), .int (0 : Int32), .ref (u 7)])), ((u 1), .inl (cJ, 73, .inr (.inl (fun _ => (0 : Int64))))), ((u 2), .inl (cJ, 73, .inr (.inl (fun _ => (0 : Int64))))), ((u 3), .inl (cJ, 74, .inr (.inl (fun _ => (0 : Int64))))), ((u 4), .inl (cJ, 145, .inr (.inl (fun _ => (0 : Int64))))), ((u 5), .inl (cJ, 4321, .inr (.inl (fun _ => (0 : Int64))))), ((u 6), .inl (cJ, 4321, .inr (.inl (fun _ => (0 : Int64))))), ((u 7), .inl (cI, 20, .inl (fun _ => (0 : Int32))))]) u) t) A) ([.ref h0] : List Value).toArray s 7 9027 A) (F0 m 0 ls [])
  have X : Wd D A s [(h0, .inr (0, [.null, .null, .null, .null, .null, .null, .long (0 : Int64), .int (0 : Int32), .null]))] s.heap [] := X
  obtain ⟨H, locs, eH, eL⟩ : ∃ H locs, H = s.heap ∧ locs = ([] : List Loc) := ⟨_, _, rfl, rfl⟩
  rw [← eH, ← eL] at X ⊢
  clear eH eL
  refine lv_aload_n hx hb dX0_init_0 rfl (lv_at hl 0 rfl) ?_
  refine x_objInit (own := RX0) C hl.1 k_8_14 k_1_10 k_1_11 dX0_init_1 (Nat.le_of_ble_eq_true rfl) (Nat.le_of_ble_eq_true rfl) ?_
  refine lv_aload_n hx hb dX0_init_4 rfl (lv_at hl 0 rfl) ?_
  refine lv_bipush (v := (73 : Int32)) hx hb dX0_init_5 (by decide) ?_
  refine x_newa (own := RX0) (atype := .long) (ty := .long) (N' := 73) (a0 := (73, .inr (.inl (fun _ => (0 : Int64))))) C X rfl k_7_17 1 rfl rfl (fun _ => rfl) (by decide) (by decide) (Nat.le_of_ble_eq_true rfl) (Nat.le_of_ble_eq_true rfl) (Nat.le_of_ble_eq_true rfl) dX0_init_7 (fun q_1 H X => ?_)
  have X : Wd D A s [(h0, .inr (0, [.null, .null, .null, .null, .null, .null, .long (0 : Int64), .int (0 : Int32), .null])), (q_1, .inl (cJ, 73, .inr (.inl (fun _ => (0 : Int64)))))] H locs := X
  refine W.widen (k := 1) (n := 73) (Nat.le_of_ble_eq_true rfl) (Nat.le_of_ble_eq_true rfl) ?_
  refine x_putF (own := RX0) (T := TX0) C X 0 rfl rfl 0 (by decide) k_8_15 rfl rfl rfl hin rfl (ty := (tyX0 0)) (v := .ref q_1) (by decide +kernel) rfl rfl (Nat.le_of_ble_eq_true rfl) dX0_init_9 (fun H locs X => ?_)
  have X : Wd D A s [(h0, .inr (0, [.ref q_1, .null, .null, .null, .null, .null, .long (0 : Int64), .int (0 : Int32), .null])), (q_1, .inl (cJ, 73, .inr (.inl (fun _ => (0 : Int64)))))] H locs := X
  refine lv_aload_n hx hb dX0_init_12 rfl (lv_at hl 0 rfl) ?_
  refine lv_bipush (v := (73 : Int32)) hx hb dX0_init_13 (by decide) ?_
  refine x_newa (own := RX0) (atype := .long) (ty := .long) (N' := 73) (a0 := (73, .inr (.inl (fun _ => (0 : Int64))))) C X rfl k_7_17 1 rfl rfl (fun _ => rfl) (by decide) (by decide) (Nat.le_of_ble_eq_true rfl) (Nat.le_of_ble_eq_true rfl) (Nat.le_of_ble_eq_true rfl) dX0_init_15 (fun q_2 H X => ?_)
  have X : Wd D A s [(h0, .inr (0, [.ref q_1, .null, .null, .null, .null, .null, .long (0 : Int64), .int (0 : Int32), .null])), (q_1, .inl (cJ, 73, .inr (.inl (fun _ => (0 : Int64))))), (q_2, .inl (cJ, 73, .inr (.inl (fun _ => (0 : Int64)))))] H locs := X
  refine W.widen (k := 2) (n := 146) (Nat.le_of_ble_eq_true rfl) (Nat.le_of_ble_eq_true rfl) ?_
  refine x_putF (own := RX0) (T := TX0) C X 0 rfl rfl 1 (by decide) k_8_16 rfl rfl rfl hin rfl (ty := (tyX0 1)) (v := .ref q_2) (by decide +kernel) rfl rfl (Nat.le_of_ble_eq_true rfl) dX0_init_17 (fun H locs X => ?_)
  have X : Wd D A s [(h0, .inr (0, [.ref q_1, .ref q_2, .null, .null, .null, .null, .long (0 : Int64), .int (0 : Int32), .null])), (q_1, .inl (cJ, 73, .inr (.inl (fun _ => (0 : Int64))))), (q_2, .inl (cJ, 73, .inr (.inl (fun _ => (0 : Int64)))))] H locs := X
  refine lv_aload_n hx hb dX0_init_20 rfl (lv_at hl 0 rfl) ?_
  refine lv_bipush (v := (74 : Int32)) hx hb dX0_init_21 (by decide) ?_
  refine x_newa (own := RX0) (atype := .long) (ty := .long) (N' := 74) (a0 := (74, .inr (.inl (fun _ => (0 : Int64))))) C X rfl k_7_17 1 rfl rfl (fun _ => rfl) (by decide) (by decide) (Nat.le_of_ble_eq_true rfl) (Nat.le_of_ble_eq_true rfl) (Nat.le_of_ble_eq_true rfl) dX0_init_23 (fun q_3 H X => ?_)
  have X : Wd D A s [(h0, .inr (0, [.ref q_1, .ref q_2, .null, .null, .null, .null, .long (0 : Int64), .int (0 : Int32), .null])), (q_1, .inl (cJ, 73, .inr (.inl (fun _ => (0 : Int64))))), (q_2, .inl (cJ, 73, .inr (.inl (fun _ => (0 : Int64))))), (q_3, .inl (cJ, 74, .inr (.inl (fun _ => (0 : Int64)))))] H locs := X
  refine W.widen (k := 3) (n := 220) (Nat.le_of_ble_eq_true rfl) (Nat.le_of_ble_eq_true rfl) ?_
  refine x_putF (own := RX0) (T := TX0) C X 0 rfl rfl 2 (by decide) k_8_17 rfl rfl rfl hin rfl (ty := (tyX0 2)) (v := .ref q_3) (by decide +kernel) rfl rfl (Nat.le_of_ble_eq_true rfl) dX0_init_25 (fun H locs X => ?_)
  have X : Wd D A s [(h0, .inr (0, [.ref q_1, .ref q_2, .ref q_3, .null, .null, .null, .long (0 : Int64), .int (0 : Int32), .null])), (q_1, .inl (cJ, 73, .inr (.inl (fun _ => (0 : Int64))))), (q_2, .inl (cJ, 73, .inr (.inl (fun _ => (0 : Int64))))), (q_3, .inl (cJ, 74, .inr (.inl (fun _ => (0 : Int64)))))] H locs := X
  refine lv_aload_n hx hb dX0_init_28 rfl (lv_at hl 0 rfl) ?_
  refine lv_sipush (v := (145 : Int32)) hx hb dX0_init_29 (by decide) ?_
  refine x_newa (own := RX0) (atype := .long) (ty := .long) (N' := 145) (a0 := (145, .inr (.inl (fun _ => (0 : Int64))))) C X rfl k_7_17 1 rfl rfl (fun _ => rfl) (by decide) (by decide) (Nat.le_of_ble_eq_true rfl) (Nat.le_of_ble_eq_true rfl) (Nat.le_of_ble_eq_true rfl) dX0_init_32 (fun q_4 H X => ?_)
  have X : Wd D A s [(h0, .inr (0, [.ref q_1, .ref q_2, .ref q_3, .null, .null, .null, .long (0 : Int64), .int (0 : Int32), .null])), (q_1, .inl (cJ, 73, .inr (.inl (fun _ => (0 : Int64))))), (q_2, .inl (cJ, 73, .inr (.inl (fun _ => (0 : Int64))))), (q_3, .inl (cJ, 74, .inr (.inl (fun _ => (0 : Int64))))), (q_4, .inl (cJ, 145, .inr (.inl (fun _ => (0 : Int64)))))] H locs := X
  refine W.widen (k := 4) (n := 365) (Nat.le_of_ble_eq_true rfl) (Nat.le_of_ble_eq_true rfl) ?_
  refine x_putF (own := RX0) (T := TX0) C X 0 rfl rfl 3 (by decide) k_8_18 rfl rfl rfl hin rfl (ty := (tyX0 3)) (v := .ref q_4) (by decide +kernel) rfl rfl (Nat.le_of_ble_eq_true rfl) dX0_init_34 (fun H locs X => ?_)
  have X : Wd D A s [(h0, .inr (0, [.ref q_1, .ref q_2, .ref q_3, .ref q_4, .null, .null, .long (0 : Int64), .int (0 : Int32), .null])), (q_1, .inl (cJ, 73, .inr (.inl (fun _ => (0 : Int64))))), (q_2, .inl (cJ, 73, .inr (.inl (fun _ => (0 : Int64))))), (q_3, .inl (cJ, 74, .inr (.inl (fun _ => (0 : Int64))))), (q_4, .inl (cJ, 145, .inr (.inl (fun _ => (0 : Int64)))))] H locs := X
  refine lv_aload_n hx hb dX0_init_37 rfl (lv_at hl 0 rfl) ?_
  refine lv_sipush (v := (4321 : Int32)) hx hb dX0_init_38 (by decide) ?_
  refine x_newa (own := RX0) (atype := .long) (ty := .long) (N' := 4321) (a0 := (4321, .inr (.inl (fun _ => (0 : Int64))))) C X rfl k_7_17 1 rfl rfl (fun _ => rfl) (by decide) (by decide) (Nat.le_of_ble_eq_true rfl) (Nat.le_of_ble_eq_true rfl) (Nat.le_of_ble_eq_true rfl) dX0_init_41 (fun q_5 H X => ?_)
  have X : Wd D A s [(h0, .inr (0, [.ref q_1, .ref q_2, .ref q_3, .ref q_4, .null, .null, .long (0 : Int64), .int (0 : Int32), .null])), (q_1, .inl (cJ, 73, .inr (.inl (fun _ => (0 : Int64))))), (q_2, .inl (cJ, 73, .inr (.inl (fun _ => (0 : Int64))))), (q_3, .inl (cJ, 74, .inr (.inl (fun _ => (0 : Int64))))), (q_4, .inl (cJ, 145, .inr (.inl (fun _ => (0 : Int64))))), (q_5, .inl (cJ, 4321, .inr (.inl (fun _ => (0 : Int64)))))] H locs := X
  refine W.widen (k := 5) (n := 4686) (Nat.le_of_ble_eq_true rfl) (Nat.le_of_ble_eq_true rfl) ?_
  refine x_putF (own := RX0) (T := TX0) C X 0 rfl rfl 4 (by decide) k_8_19 rfl rfl rfl hin rfl (ty := (tyX0 4)) (v := .ref q_5) (by decide +kernel) rfl rfl (Nat.le_of_ble_eq_true rfl) dX0_init_43 (fun H locs X => ?_)
  have X : Wd D A s [(h0, .inr (0, [.ref q_1, .ref q_2, .ref q_3, .ref q_4, .ref q_5, .null, .long (0 : Int64), .int (0 : Int32), .null])), (q_1, .inl (cJ, 73, .inr (.inl (fun _ => (0 : Int64))))), (q_2, .inl (cJ, 73, .inr (.inl (fun _ => (0 : Int64))))), (q_3, .inl (cJ, 74, .inr (.inl (fun _ => (0 : Int64))))), (q_4, .inl (cJ, 145, .inr (.inl (fun _ => (0 : Int64))))), (q_5, .inl (cJ, 4321, .inr (.inl (fun _ => (0 : Int64)))))] H locs := X
  refine lv_aload_n hx hb dX0_init_46 rfl (lv_at hl 0 rfl) ?_
  refine lv_sipush (v := (4321 : Int32)) hx hb dX0_init_47 (by decide) ?_
  refine x_newa (own := RX0) (atype := .long) (ty := .long) (N' := 4321) (a0 := (4321, .inr (.inl (fun _ => (0 : Int64))))) C X rfl k_7_17 1 rfl rfl (fun _ => rfl) (by decide) (by decide) (Nat.le_of_ble_eq_true rfl) (Nat.le_of_ble_eq_true rfl) (Nat.le_of_ble_eq_true rfl) dX0_init_50 (fun q_6 H X => ?_)
  have X : Wd D A s [(h0, .inr (0, [.ref q_1, .ref q_2, .ref q_3, .ref q_4, .ref q_5, .null, .long (0 : Int64), .int (0 : Int32), .null])), (q_1, .inl (cJ, 73, .inr (.inl (fun _ => (0 : Int64))))), (q_2, .inl (cJ, 73, .inr (.inl (fun _ => (0 : Int64))))), (q_3, .inl (cJ, 74, .inr (.inl (fun _ => (0 : Int64))))), (q_4, .inl (cJ, 145, .inr (.inl (fun _ => (0 : Int64))))), (q_5, .inl (cJ, 4321, .inr (.inl (fun _ => (0 : Int64))))), (q_6, .inl (cJ, 4321, .inr (.inl (fun _ => (0 : Int64)))))] H locs := X
  refine W.widen (k := 6) (n := 9007) (Nat.le_of_ble_eq_true rfl) (Nat.le_of_ble_eq_true rfl) ?_
  refine x_putF (own := RX0) (T := TX0) C X 0 rfl rfl 5 (by decide) k_8_20 rfl rfl rfl hin rfl (ty := (tyX0 5)) (v := .ref q_6) (by decide +kernel) rfl rfl (Nat.le_of_ble_eq_true rfl) dX0_init_52 (fun H locs X => ?_)
  have X : Wd D A s [(h0, .inr (0, [.ref q_1, .ref q_2, .ref q_3, .ref q_4, .ref q_5, .ref q_6, .long (0 : Int64), .int (0 : Int32), .null])), (q_1, .inl (cJ, 73, .inr (.inl (fun _ => (0 : Int64))))), (q_2, .inl (cJ, 73, .inr (.inl (fun _ => (0 : Int64))))), (q_3, .inl (cJ, 74, .inr (.inl (fun _ => (0 : Int64))))), (q_4, .inl (cJ, 145, .inr (.inl (fun _ => (0 : Int64))))), (q_5, .inl (cJ, 4321, .inr (.inl (fun _ => (0 : Int64))))), (q_6, .inl (cJ, 4321, .inr (.inl (fun _ => (0 : Int64)))))] H locs := X
  refine lv_aload_n hx hb dX0_init_55 rfl (lv_at hl 0 rfl) ?_
  refine lv_lconst (v := (0 : Int64)) hx hb dX0_init_56 (by decide) ?_
  refine x_put (own := RX0) (T := TX0) C X 0 rfl rfl 6 (by decide) k_8_21 rfl rfl rfl (ty := .long) (v := .long (0 : Int64)) (by decide +kernel) rfl rfl (Nat.le_of_ble_eq_true rfl) dX0_init_57 (fun H locs X => ?_)
  have X : Wd D A s [(h0, .inr (0, [.ref q_1, .ref q_2, .ref q_3, .ref q_4, .ref q_5, .ref q_6, .long (0 : Int64), .int (0 : Int32), .null])), (q_1, .inl (cJ, 73, .inr (.inl (fun _ => (0 : Int64))))), (q_2, .inl (cJ, 73, .inr (.inl (fun _ => (0 : Int64))))), (q_3, .inl (cJ, 74, .inr (.inl (fun _ => (0 : Int64))))), (q_4, .inl (cJ, 145, .inr (.inl (fun _ => (0 : Int64))))), (q_5, .inl (cJ, 4321, .inr (.inl (fun _ => (0 : Int64))))), (q_6, .inl (cJ, 4321, .inr (.inl (fun _ => (0 : Int64)))))] H locs := X
  refine lv_aload_n hx hb dX0_init_60 rfl (lv_at hl 0 rfl) ?_
  refine lv_iconst (v := (0 : Int32)) hx hb dX0_init_61 (by decide) ?_
  refine x_put (own := RX0) (T := TX0) C X 0 rfl rfl 7 (by decide) k_8_22 rfl rfl rfl (ty := .int) (v := .int (0 : Int32)) (by decide +kernel) rfl rfl (Nat.le_of_ble_eq_true rfl) dX0_init_62 (fun H locs X => ?_)
  have X : Wd D A s [(h0, .inr (0, [.ref q_1, .ref q_2, .ref q_3, .ref q_4, .ref q_5, .ref q_6, .long (0 : Int64), .int (0 : Int32), .null])), (q_1, .inl (cJ, 73, .inr (.inl (fun _ => (0 : Int64))))), (q_2, .inl (cJ, 73, .inr (.inl (fun _ => (0 : Int64))))), (q_3, .inl (cJ, 74, .inr (.inl (fun _ => (0 : Int64))))), (q_4, .inl (cJ, 145, .inr (.inl (fun _ => (0 : Int64))))), (q_5, .inl (cJ, 4321, .inr (.inl (fun _ => (0 : Int64))))), (q_6, .inl (cJ, 4321, .inr (.inl (fun _ => (0 : Int64)))))] H locs := X
  refine lv_aload_n hx hb dX0_init_65 rfl (lv_at hl 0 rfl) ?_
  refine lv_bipush (v := (20 : Int32)) hx hb dX0_init_66 (by decide) ?_
  refine x_newa (own := RX0) (atype := .int) (ty := .int) (N' := 20) (a0 := (20, .inl (fun _ => (0 : Int32)))) C X rfl k_2_7 0 rfl rfl (fun _ => rfl) (by decide) (by decide) (Nat.le_of_ble_eq_true rfl) (Nat.le_of_ble_eq_true rfl) (Nat.le_of_ble_eq_true rfl) dX0_init_68 (fun q_7 H X => ?_)
  have X : Wd D A s [(h0, .inr (0, [.ref q_1, .ref q_2, .ref q_3, .ref q_4, .ref q_5, .ref q_6, .long (0 : Int64), .int (0 : Int32), .null])), (q_1, .inl (cJ, 73, .inr (.inl (fun _ => (0 : Int64))))), (q_2, .inl (cJ, 73, .inr (.inl (fun _ => (0 : Int64))))), (q_3, .inl (cJ, 74, .inr (.inl (fun _ => (0 : Int64))))), (q_4, .inl (cJ, 145, .inr (.inl (fun _ => (0 : Int64))))), (q_5, .inl (cJ, 4321, .inr (.inl (fun _ => (0 : Int64))))), (q_6, .inl (cJ, 4321, .inr (.inl (fun _ => (0 : Int64))))), (q_7, .inl (cI, 20, .inl (fun _ => (0 : Int32))))] H locs := X
  refine W.widen (k := 7) (n := 9027) (Nat.le_of_ble_eq_true rfl) (Nat.le_of_ble_eq_true rfl) ?_
  refine x_putF (own := RX0) (T := TX0) C X 0 rfl rfl 8 (by decide) k_8_23 rfl rfl rfl hin rfl (ty := (tyX0 8)) (v := .ref q_7) (by decide +kernel) rfl rfl (Nat.le_of_ble_eq_true rfl) dX0_init_70 (fun H locs X => ?_)
  have X : Wd D A s [(h0, .inr (0, [.ref q_1, .ref q_2, .ref q_3, .ref q_4, .ref q_5, .ref q_6, .long (0 : Int64), .int (0 : Int32), .ref q_7])), (q_1, .inl (cJ, 73, .inr (.inl (fun _ => (0 : Int64))))), (q_2, .inl (cJ, 73, .inr (.inl (fun _ => (0 : Int64))))), (q_3, .inl (cJ, 74, .inr (.inl (fun _ => (0 : Int64))))), (q_4, .inl (cJ, 145, .inr (.inl (fun _ => (0 : Int64))))), (q_5, .inl (cJ, 4321, .inr (.inl (fun _ => (0 : Int64))))), (q_6, .inl (cJ, 4321, .inr (.inl (fun _ => (0 : Int64))))), (q_7, .inl (cI, 20, .inl (fun _ => (0 : Int32))))] H locs := X
  exact x_vret C X hr hlk (fun k => ([h0, q_1, q_2, q_3, q_4, q_5, q_6, q_7] : List Nat).getD k 0) [0, 1, 2, 3, 4, 5, 6, 7] (by decide) rfl (trivial) (Nat.le_of_ble_eq_true rfl) (Nat.le_of_ble_eq_true rfl) dX0_init_73
set_option maxHeartbeats 4000000 in
set_option maxRecDepth 100000 in
theorem c_Tal_init (l : Launch) (D : va_G) (cI cJ cZ cB : ClassId) (cO : ClassId) (h0 wa : Nat) :
    CV l D [(cI, .int), (cJ, .long), (cZ, .boolean), (cB, .byte), (cO, .object "LuckLinks$World")] yX8_init cX8_init 2 ({ frames := 1, cells := 0, slots := 0, locals := 20 } : Room) [.ref h0, .ref wa] [(h0, .inr (8, [.null, .int (0 : Int32), .int (0 : Int32), .int (0 : Int32), .int (0 : Int32), .long (0 : Int64), .long (0 : Int64), .long (0 : Int64)]))] (fun (u : (Nat → Nat)) => match u with | u => (True)) (fun (u : (Nat → Nat)) => match u with | u => [(h0, .inr (8, [.ref wa, .int (0 : Int32), .int (0 : Int32), .int (-1 : Int32), .int (0 : Int32), .long (0 : Int64), .long (0 : Int64), .long (0 : Int64)]))]) := by
  intro sz
  refine body_of (y := yX8_init) (cc := cX8_init) (maxL := 2) (ret := none) (rm := ({ frames := 1, cells := 0, slots := 0, locals := 20 } : Room)) (wc := [(h0, .inr (8, [.null, .int (0 : Int32), .int (0 : Int32), .int (0 : Int32), .int (0 : Int32), .long (0 : Int64), .long (0 : Int64), .long (0 : Int64)]))]) (tys := [(cI, .int), (cJ, .long), (cZ, .boolean), (cB, .byte), (cO, .object "LuckLinks$World")]) (D := D) (sz := sz) (own := RX8) (av := [.ref h0, .ref wa]) (Qc := fun A => va_Qv (fun (u : (Nat → Nat)) => match u with | u => (True)) (fun u t => Aft D A ((fun (u : (Nat → Nat)) => match u with | u => [(h0, .inr (8, [.ref wa, .int (0 : Int32), .int (0 : Int32), .int (-1 : Int32), .int (0 : Int32), .long (0 : Int64), .long (0 : Int64), .long (0 : Int64)]))]) u) t) A) (by decide) rfl (Nat.le_of_ble_eq_true rfl) (fun p e s m below meth c A ls C hr hlk hin X hl => ?_)
  have hx := C.1
  have hb := C.2.1
  have hown := C.2.2.2.1
  have hts := C.2.2.2.2.1
  have hl : lv_has ls 2 [(0, .ref h0), (1, .ref wa)] := hl
  show W p l e _ s m _ below meth c s.heap [] 0 0 (MQ below (va_Qv (fun (u : (Nat → Nat)) => match u with | u => (True)) (fun u t => Aft D A ((fun (u : (Nat → Nat)) => match u with | u => [(h0, .inr (8, [.ref wa, .int (0 : Int32), .int (0 : Int32), .int (-1 : Int32), .int (0 : Int32), .long (0 : Int64), .long (0 : Int64), .long (0 : Int64)]))]) u) t) A) ([.ref h0, .ref wa] : List Value).toArray s 0 0 A) (F0 m 0 ls [])
  have X : Wd D A s [(h0, .inr (8, [.null, .int (0 : Int32), .int (0 : Int32), .int (0 : Int32), .int (0 : Int32), .long (0 : Int64), .long (0 : Int64), .long (0 : Int64)]))] s.heap [] := X
  obtain ⟨H, locs, eH, eL⟩ : ∃ H locs, H = s.heap ∧ locs = ([] : List Loc) := ⟨_, _, rfl, rfl⟩
  rw [← eH, ← eL] at X ⊢
  clear eH eL
  refine lv_aload_n hx hb dX8_init_0 rfl (lv_at hl 0 rfl) ?_
  refine x_objInit (own := RX8) C hl.1 k_9_3 k_1_10 k_1_11 dX8_init_1 (Nat.le_of_ble_eq_true rfl) (Nat.le_of_ble_eq_true rfl) ?_
  refine lv_aload_n hx hb dX8_init_4 rfl (lv_at hl 0 rfl) ?_
  refine lv_iconst (v := (0 : Int32)) hx hb dX8_init_5 (by decide) ?_
  refine x_put (own := RX8) (T := TX8) C X 0 rfl rfl 1 (by decide) k_9_4 rfl rfl rfl (ty := .int) (v := .int (0 : Int32)) (by decide +kernel) rfl rfl (Nat.le_of_ble_eq_true rfl) dX8_init_6 (fun H locs X => ?_)
  have X : Wd D A s [(h0, .inr (8, [.null, .int (0 : Int32), .int (0 : Int32), .int (0 : Int32), .int (0 : Int32), .long (0 : Int64), .long (0 : Int64), .long (0 : Int64)]))] H locs := X
  refine lv_aload_n hx hb dX8_init_9 rfl (lv_at hl 0 rfl) ?_
  refine lv_iconst (v := (0 : Int32)) hx hb dX8_init_10 (by decide) ?_
  refine x_put (own := RX8) (T := TX8) C X 0 rfl rfl 2 (by decide) k_9_5 rfl rfl rfl (ty := .int) (v := .int (0 : Int32)) (by decide +kernel) rfl rfl (Nat.le_of_ble_eq_true rfl) dX8_init_11 (fun H locs X => ?_)
  have X : Wd D A s [(h0, .inr (8, [.null, .int (0 : Int32), .int (0 : Int32), .int (0 : Int32), .int (0 : Int32), .long (0 : Int64), .long (0 : Int64), .long (0 : Int64)]))] H locs := X
  refine lv_aload_n hx hb dX8_init_14 rfl (lv_at hl 0 rfl) ?_
  refine lv_iconst (v := (-1 : Int32)) hx hb dX8_init_15 (by decide) ?_
  refine x_put (own := RX8) (T := TX8) C X 0 rfl rfl 3 (by decide) k_9_6 rfl rfl rfl (ty := .int) (v := .int (-1 : Int32)) (by decide +kernel) rfl rfl (Nat.le_of_ble_eq_true rfl) dX8_init_16 (fun H locs X => ?_)
  have X : Wd D A s [(h0, .inr (8, [.null, .int (0 : Int32), .int (0 : Int32), .int (-1 : Int32), .int (0 : Int32), .long (0 : Int64), .long (0 : Int64), .long (0 : Int64)]))] H locs := X
  refine lv_aload_n hx hb dX8_init_19 rfl (lv_at hl 0 rfl) ?_
  refine lv_iconst (v := (0 : Int32)) hx hb dX8_init_20 (by decide) ?_
  refine x_put (own := RX8) (T := TX8) C X 0 rfl rfl 4 (by decide) k_9_7 rfl rfl rfl (ty := .int) (v := .int (0 : Int32)) (by decide +kernel) rfl rfl (Nat.le_of_ble_eq_true rfl) dX8_init_21 (fun H locs X => ?_)
  have X : Wd D A s [(h0, .inr (8, [.null, .int (0 : Int32), .int (0 : Int32), .int (-1 : Int32), .int (0 : Int32), .long (0 : Int64), .long (0 : Int64), .long (0 : Int64)]))] H locs := X
  refine lv_aload_n hx hb dX8_init_24 rfl (lv_at hl 0 rfl) ?_
  refine lv_lconst (v := (0 : Int64)) hx hb dX8_init_25 (by decide) ?_
  refine x_put (own := RX8) (T := TX8) C X 0 rfl rfl 5 (by decide) k_9_8 rfl rfl rfl (ty := .long) (v := .long (0 : Int64)) (by decide +kernel) rfl rfl (Nat.le_of_ble_eq_true rfl) dX8_init_26 (fun H locs X => ?_)
  have X : Wd D A s [(h0, .inr (8, [.null, .int (0 : Int32), .int (0 : Int32), .int (-1 : Int32), .int (0 : Int32), .long (0 : Int64), .long (0 : Int64), .long (0 : Int64)]))] H locs := X
  refine lv_aload_n hx hb dX8_init_29 rfl (lv_at hl 0 rfl) ?_
  refine lv_lconst (v := (0 : Int64)) hx hb dX8_init_30 (by decide) ?_
  refine x_put (own := RX8) (T := TX8) C X 0 rfl rfl 6 (by decide) k_9_9 rfl rfl rfl (ty := .long) (v := .long (0 : Int64)) (by decide +kernel) rfl rfl (Nat.le_of_ble_eq_true rfl) dX8_init_31 (fun H locs X => ?_)
  have X : Wd D A s [(h0, .inr (8, [.null, .int (0 : Int32), .int (0 : Int32), .int (-1 : Int32), .int (0 : Int32), .long (0 : Int64), .long (0 : Int64), .long (0 : Int64)]))] H locs := X
  refine lv_aload_n hx hb dX8_init_34 rfl (lv_at hl 0 rfl) ?_
  refine lv_lconst (v := (0 : Int64)) hx hb dX8_init_35 (by decide) ?_
  refine x_put (own := RX8) (T := TX8) C X 0 rfl rfl 7 (by decide) k_9_10 rfl rfl rfl (ty := .long) (v := .long (0 : Int64)) (by decide +kernel) rfl rfl (Nat.le_of_ble_eq_true rfl) dX8_init_36 (fun H locs X => ?_)
  have X : Wd D A s [(h0, .inr (8, [.null, .int (0 : Int32), .int (0 : Int32), .int (-1 : Int32), .int (0 : Int32), .long (0 : Int64), .long (0 : Int64), .long (0 : Int64)]))] H locs := X
  refine lv_aload_n hx hb dX8_init_39 rfl (lv_at hl 0 rfl) ?_
  refine lv_aload_n hx hb dX8_init_40 rfl (lv_at hl 1 rfl) ?_
  refine x_putF (own := RX8) (T := TX8) C X 0 rfl rfl 0 (by decide) k_9_11 rfl rfl rfl hin rfl (ty := (tyX8 0)) (v := .ref wa) (by decide +kernel) rfl rfl (Nat.le_of_ble_eq_true rfl) dX8_init_41 (fun H locs X => ?_)
  have X : Wd D A s [(h0, .inr (8, [.ref wa, .int (0 : Int32), .int (0 : Int32), .int (-1 : Int32), .int (0 : Int32), .long (0 : Int64), .long (0 : Int64), .long (0 : Int64)]))] H locs := X
  exact x_vret C X hr hlk (fun k => ([h0] : List Nat).getD k 0) [0] (by decide) rfl (trivial) (Nat.le_of_ble_eq_true rfl) (Nat.le_of_ble_eq_true rfl) dX8_init_44
end
