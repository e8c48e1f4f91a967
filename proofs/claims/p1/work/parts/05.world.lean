theorem k_12_16 : Cond.methodLink RX10 62 yX10_putParts ∈ wsL_law := mr_12 _ (List.mem_of_getElem? (i := 16) rfl)
theorem k_12_17 : Cond.static yX10_putParts ∈ wsL_law := mr_12 _ (List.mem_of_getElem? (i := 17) rfl)
theorem k_12_18 : Cond.code yX10_putParts cX10_putParts 7 none ∈ wsL_law := mr_12 _ (List.mem_of_getElem? (i := 18) rfl)
theorem k_14_1 : Cond.static yX11_isWeek ∈ wsL_law := mr_14 _ (List.mem_of_getElem? (i := 1) rfl)
theorem k_14_2 : Cond.code yX11_isWeek cX11_isWeek 1 (some .boolean) ∈ wsL_law := mr_14 _ (List.mem_of_getElem? (i := 2) rfl)
theorem k_15_13 : Cond.methodLink RX10 96 yX10_slotOf ∈ wsL_law := mr_15 _ (List.mem_of_getElem? (i := 13) rfl)
theorem k_15_14 : Cond.static yX10_slotOf ∈ wsL_law := mr_15 _ (List.mem_of_getElem? (i := 14) rfl)
theorem k_15_15 : Cond.code yX10_slotOf cX10_slotOf 4 (some .int) ∈ wsL_law := mr_15 _ (List.mem_of_getElem? (i := 15) rfl)
theorem k_1_14 : Cond.initialized RX10 ∈ wsL_law := mr_1 _ (List.mem_of_getElem? (i := 14) rfl)
theorem k_3_17 : Cond.fieldLink RX10 9 "LuckLinks$World" "players" "I" ∈ wsL_law := mr_3 _ (List.mem_of_getElem? (i := 17) rfl)
theorem k_3_18 : Cond.fieldLink RX10 15 "LuckLinks$World" "gifts" "[I" ∈ wsL_law := mr_3 _ (List.mem_of_getElem? (i := 18) rfl)
theorem k_3_19 : Cond.fieldLink RX10 19 "LuckLinks$World" "courses" "I" ∈ wsL_law := mr_3 _ (List.mem_of_getElem? (i := 19) rfl)
theorem k_3_20 : Cond.fieldLink RX10 22 "LuckLinks$World" "courseStrokes" "[I" ∈ wsL_law := mr_3 _ (List.mem_of_getElem? (i := 20) rfl)
theorem k_3_21 : Cond.fieldLink RX10 25 "LuckLinks$World" "weekCourse" "[I" ∈ wsL_law := mr_3 _ (List.mem_of_getElem? (i := 21) rfl)
theorem k_3_23 : Cond.fieldLink RX10 31 "LuckLinks$World" "hours" "[I" ∈ wsL_law := mr_3 _ (List.mem_of_getElem? (i := 23) rfl)
theorem k_4_1 : Cond.fieldLink RX10 37 "LuckLinks$World" "dayRounds" "[I" ∈ wsL_law := mr_4 _ (List.mem_of_getElem? (i := 1) rfl)
theorem dX10_addCourse_0 : decode cX10_addCourse 0 = .ok (.aload_n 0, 1) := by decide +kernel
theorem dX10_addCourse_1 : decode cX10_addCourse 1 = .ok (.getfield 22, 3) := by decide +kernel
theorem dX10_addCourse_4 : decode cX10_addCourse 4 = .ok (.aload_n 0, 1) := by decide +kernel
theorem dX10_addCourse_5 : decode cX10_addCourse 5 = .ok (.getfield 19, 3) := by decide +kernel
theorem dX10_addCourse_8 : decode cX10_addCourse 8 = .ok (.iload_n 1, 1) := by decide +kernel
theorem dX10_addCourse_9 : decode cX10_addCourse 9 = .ok (.iload_n 2, 1) := by decide +kernel
theorem dX10_addCourse_10 : decode cX10_addCourse 10 = .ok (.iload_n 3, 1) := by decide +kernel
theorem dX10_addCourse_11 : decode cX10_addCourse 11 = .ok (.iload 4, 2) := by decide +kernel
theorem dX10_addCourse_13 : decode cX10_addCourse 13 = .ok (.invokestatic 62, 3) := by decide +kernel
theorem dX10_addCourse_16 : decode cX10_addCourse 16 = .ok (.aload_n 0, 1) := by decide +kernel
theorem dX10_addCourse_17 : decode cX10_addCourse 17 = .ok (.dup, 1) := by decide +kernel
theorem dX10_addCourse_18 : decode cX10_addCourse 18 = .ok (.getfield 19, 3) := by decide +kernel
theorem dX10_addCourse_21 : decode cX10_addCourse 21 = .ok (.iconst 1, 1) := by decide +kernel
theorem dX10_addCourse_22 : decode cX10_addCourse 22 = .ok (.iadd, 1) := by decide +kernel
theorem dX10_addCourse_23 : decode cX10_addCourse 23 = .ok (.putfield 19, 3) := by decide +kernel
theorem dX10_addCourse_26 : decode cX10_addCourse 26 = .ok (.aload_n 0, 1) := by decide +kernel
theorem dX10_addCourse_27 : decode cX10_addCourse 27 = .ok (.getfield 19, 3) := by decide +kernel
theorem dX10_addCourse_30 : decode cX10_addCourse 30 = .ok (.iconst 1, 1) := by decide +kernel
theorem dX10_addCourse_31 : decode cX10_addCourse 31 = .ok (.isub, 1) := by decide +kernel
theorem dX10_addCourse_32 : decode cX10_addCourse 32 = .ok (.ireturn, 1) := by decide +kernel
theorem dX10_addPlayer_0 : decode cX10_addPlayer 0 = .ok (.aload_n 0, 1) := by decide +kernel
theorem dX10_addPlayer_1 : decode cX10_addPlayer 1 = .ok (.getfield 15, 3) := by decide +kernel
theorem dX10_addPlayer_4 : decode cX10_addPlayer 4 = .ok (.aload_n 0, 1) := by decide +kernel
theorem dX10_addPlayer_5 : decode cX10_addPlayer 5 = .ok (.getfield 9, 3) := by decide +kernel
theorem dX10_addPlayer_8 : decode cX10_addPlayer 8 = .ok (.iload_n 1, 1) := by decide +kernel
theorem dX10_addPlayer_9 : decode cX10_addPlayer 9 = .ok (.iload_n 2, 1) := by decide +kernel
theorem dX10_addPlayer_10 : decode cX10_addPlayer 10 = .ok (.iload_n 3, 1) := by decide +kernel
theorem dX10_addPlayer_11 : decode cX10_addPlayer 11 = .ok (.iload 4, 2) := by decide +kernel
theorem dX10_addPlayer_13 : decode cX10_addPlayer 13 = .ok (.invokestatic 62, 3) := by decide +kernel
theorem dX10_addPlayer_16 : decode cX10_addPlayer 16 = .ok (.aload_n 0, 1) := by decide +kernel
theorem dX10_addPlayer_17 : decode cX10_addPlayer 17 = .ok (.dup, 1) := by decide +kernel
theorem dX10_addPlayer_18 : decode cX10_addPlayer 18 = .ok (.getfield 9, 3) := by decide +kernel
theorem dX10_addPlayer_21 : decode cX10_addPlayer 21 = .ok (.iconst 1, 1) := by decide +kernel
theorem dX10_addPlayer_22 : decode cX10_addPlayer 22 = .ok (.iadd, 1) := by decide +kernel
theorem dX10_addPlayer_23 : decode cX10_addPlayer 23 = .ok (.putfield 9, 3) := by decide +kernel
theorem dX10_addPlayer_26 : decode cX10_addPlayer 26 = .ok (.aload_n 0, 1) := by decide +kernel
theorem dX10_addPlayer_27 : decode cX10_addPlayer 27 = .ok (.getfield 9, 3) := by decide +kernel
theorem dX10_addPlayer_30 : decode cX10_addPlayer 30 = .ok (.iconst 1, 1) := by decide +kernel
theorem dX10_addPlayer_31 : decode cX10_addPlayer 31 = .ok (.isub, 1) := by decide +kernel
theorem dX10_addPlayer_32 : decode cX10_addPlayer 32 = .ok (.ireturn, 1) := by decide +kernel
theorem dX10_courseOf_0 : decode cX10_courseOf 0 = .ok (.iload_n 1, 1) := by decide +kernel
theorem dX10_courseOf_1 : decode cX10_courseOf 1 = .ok (.invokestatic 66, 3) := by decide +kernel
theorem dX10_courseOf_4 : decode cX10_courseOf 4 = .ok (.ifCond .eq 12, 3) := by decide +kernel
theorem dX10_courseOf_7 : decode cX10_courseOf 7 = .ok (.aload_n 0, 1) := by decide +kernel
theorem dX10_courseOf_8 : decode cX10_courseOf 8 = .ok (.getfield 25, 3) := by decide +kernel
theorem dX10_courseOf_11 : decode cX10_courseOf 11 = .ok (.iload_n 1, 1) := by decide +kernel
theorem dX10_courseOf_12 : decode cX10_courseOf 12 = .ok (.iaload, 1) := by decide +kernel
theorem dX10_courseOf_13 : decode cX10_courseOf 13 = .ok (.goto 4, 3) := by decide +kernel
theorem dX10_courseOf_16 : decode cX10_courseOf 16 = .ok (.iconst (-1), 1) := by decide +kernel
theorem dX10_courseOf_17 : decode cX10_courseOf 17 = .ok (.ireturn, 1) := by decide +kernel
theorem dX10_hasRound_0 : decode cX10_hasRound 0 = .ok (.iload_n 1, 1) := by decide +kernel
theorem dX10_hasRound_1 : decode cX10_hasRound 1 = .ok (.iload_n 2, 1) := by decide +kernel
theorem dX10_hasRound_2 : decode cX10_hasRound 2 = .ok (.iload_n 3, 1) := by decide +kernel
theorem dX10_hasRound_3 : decode cX10_hasRound 3 = .ok (.invokestatic 96, 3) := by decide +kernel
theorem dX10_hasRound_6 : decode cX10_hasRound 6 = .ok (.istore 4, 2) := by decide +kernel
theorem dX10_hasRound_8 : decode cX10_hasRound 8 = .ok (.iload 4, 2) := by decide +kernel
theorem dX10_hasRound_10 : decode cX10_hasRound 10 = .ok (.iconst (-1), 1) := by decide +kernel
theorem dX10_hasRound_11 : decode cX10_hasRound 11 = .ok (.if_icmp .eq 18, 3) := by decide +kernel
theorem dX10_hasRound_14 : decode cX10_hasRound 14 = .ok (.aload_n 0, 1) := by decide +kernel
theorem dX10_hasRound_15 : decode cX10_hasRound 15 = .ok (.getfield 31, 3) := by decide +kernel
theorem dX10_hasRound_18 : decode cX10_hasRound 18 = .ok (.iload 4, 2) := by decide +kernel
theorem dX10_hasRound_20 : decode cX10_hasRound 20 = .ok (.iaload, 1) := by decide +kernel
theorem dX10_hasRound_21 : decode cX10_hasRound 21 = .ok (.iconst (-1), 1) := by decide +kernel
theorem dX10_hasRound_22 : decode cX10_hasRound 22 = .ok (.if_icmp .eq 7, 3) := by decide +kernel
theorem dX10_hasRound_29 : decode cX10_hasRound 29 = .ok (.iconst 0, 1) := by decide +kernel
theorem dX10_hasRound_30 : decode cX10_hasRound 30 = .ok (.ireturn, 1) := by decide +kernel
theorem dX10_isPlayer_0 : decode cX10_isPlayer 0 = .ok (.iload_n 1, 1) := by decide +kernel
theorem dX10_isPlayer_1 : decode cX10_isPlayer 1 = .ok (.ifCond .lt 15, 3) := by decide +kernel
theorem dX10_isPlayer_4 : decode cX10_isPlayer 4 = .ok (.iload_n 1, 1) := by decide +kernel
theorem dX10_isPlayer_5 : decode cX10_isPlayer 5 = .ok (.aload_n 0, 1) := by decide +kernel
theorem dX10_isPlayer_6 : decode cX10_isPlayer 6 = .ok (.getfield 9, 3) := by decide +kernel
theorem dX10_isPlayer_9 : decode cX10_isPlayer 9 = .ok (.if_icmp .ge 7, 3) := by decide +kernel
theorem dX10_isPlayer_16 : decode cX10_isPlayer 16 = .ok (.iconst 0, 1) := by decide +kernel
theorem dX10_isPlayer_17 : decode cX10_isPlayer 17 = .ok (.ireturn, 1) := by decide +kernel
theorem dX10_putParts_0 : decode cX10_putParts 0 = .ok (.iload_n 1, 1) := by decide +kernel
theorem dX10_putParts_1 : decode cX10_putParts 1 = .ok (.iconst 4, 1) := by decide +kernel
theorem dX10_putParts_2 : decode cX10_putParts 2 = .ok (.imul, 1) := by decide +kernel
theorem dX10_putParts_3 : decode cX10_putParts 3 = .ok (.istore 6, 2) := by decide +kernel
theorem dX10_putParts_5 : decode cX10_putParts 5 = .ok (.iload 6, 2) := by decide +kernel
theorem dX10_putParts_7 : decode cX10_putParts 7 = .ok (.ifCond .lt 40, 3) := by decide +kernel
theorem dX10_putParts_10 : decode cX10_putParts 10 = .ok (.iload 6, 2) := by decide +kernel
theorem dX10_putParts_12 : decode cX10_putParts 12 = .ok (.iconst 3, 1) := by decide +kernel
theorem dX10_putParts_13 : decode cX10_putParts 13 = .ok (.iadd, 1) := by decide +kernel
theorem dX10_putParts_14 : decode cX10_putParts 14 = .ok (.aload_n 0, 1) := by decide +kernel
theorem dX10_putParts_15 : decode cX10_putParts 15 = .ok (.arraylength, 1) := by decide +kernel
theorem dX10_putParts_16 : decode cX10_putParts 16 = .ok (.if_icmp .ge 31, 3) := by decide +kernel
theorem dX10_putParts_19 : decode cX10_putParts 19 = .ok (.aload_n 0, 1) := by decide +kernel
theorem dX10_putParts_20 : decode cX10_putParts 20 = .ok (.iload 6, 2) := by decide +kernel
theorem dX10_putParts_22 : decode cX10_putParts 22 = .ok (.iload_n 2, 1) := by decide +kernel
theorem dX10_putParts_23 : decode cX10_putParts 23 = .ok (.iastore, 1) := by decide +kernel
theorem dX10_putParts_24 : decode cX10_putParts 24 = .ok (.aload_n 0, 1) := by decide +kernel
theorem dX10_putParts_25 : decode cX10_putParts 25 = .ok (.iload 6, 2) := by decide +kernel
theorem dX10_putParts_27 : decode cX10_putParts 27 = .ok (.iconst 1, 1) := by decide +kernel
theorem dX10_putParts_28 : decode cX10_putParts 28 = .ok (.iadd, 1) := by decide +kernel
theorem dX10_putParts_29 : decode cX10_putParts 29 = .ok (.iload_n 3, 1) := by decide +kernel
theorem dX10_putParts_30 : decode cX10_putParts 30 = .ok (.iastore, 1) := by decide +kernel
theorem dX10_putParts_31 : decode cX10_putParts 31 = .ok (.aload_n 0, 1) := by decide +kernel
theorem dX10_putParts_32 : decode cX10_putParts 32 = .ok (.iload 6, 2) := by decide +kernel
theorem dX10_putParts_34 : decode cX10_putParts 34 = .ok (.iconst 2, 1) := by decide +kernel
theorem dX10_putParts_35 : decode cX10_putParts 35 = .ok (.iadd, 1) := by decide +kernel
theorem dX10_putParts_36 : decode cX10_putParts 36 = .ok (.iload 4, 2) := by decide +kernel
theorem dX10_putParts_38 : decode cX10_putParts 38 = .ok (.iastore, 1) := by decide +kernel
theorem dX10_putParts_39 : decode cX10_putParts 39 = .ok (.aload_n 0, 1) := by decide +kernel
theorem dX10_putParts_40 : decode cX10_putParts 40 = .ok (.iload 6, 2) := by decide +kernel
theorem dX10_putParts_42 : decode cX10_putParts 42 = .ok (.iconst 3, 1) := by decide +kernel
theorem dX10_putParts_43 : decode cX10_putParts 43 = .ok (.iadd, 1) := by decide +kernel
theorem dX10_putParts_44 : decode cX10_putParts 44 = .ok (.iload 5, 2) := by decide +kernel
theorem dX10_putParts_46 : decode cX10_putParts 46 = .ok (.iastore, 1) := by decide +kernel
theorem dX10_putParts_47 : decode cX10_putParts 47 = .ok (.return_, 1) := by decide +kernel
theorem dX10_roundsOn_0 : decode cX10_roundsOn 0 = .ok (.iload_n 1, 1) := by decide +kernel
theorem dX10_roundsOn_1 : decode cX10_roundsOn 1 = .ok (.ifCond .lt 22, 3) := by decide +kernel
theorem dX10_roundsOn_4 : decode cX10_roundsOn 4 = .ok (.iload_n 1, 1) := by decide +kernel
theorem dX10_roundsOn_5 : decode cX10_roundsOn 5 = .ok (.bipush 40, 2) := by decide +kernel
theorem dX10_roundsOn_7 : decode cX10_roundsOn 7 = .ok (.if_icmp .ge 16, 3) := by decide +kernel
theorem dX10_roundsOn_10 : decode cX10_roundsOn 10 = .ok (.iload_n 2, 1) := by decide +kernel
theorem dX10_roundsOn_11 : decode cX10_roundsOn 11 = .ok (.ifCond .lt 12, 3) := by decide +kernel
theorem dX10_roundsOn_14 : decode cX10_roundsOn 14 = .ok (.iload_n 2, 1) := by decide +kernel
theorem dX10_roundsOn_15 : decode cX10_roundsOn 15 = .ok (.iconst 4, 1) := by decide +kernel
theorem dX10_roundsOn_16 : decode cX10_roundsOn 16 = .ok (.if_icmp .ge 7, 3) := by decide +kernel
theorem dX10_roundsOn_19 : decode cX10_roundsOn 19 = .ok (.iconst 1, 1) := by decide +kernel
theorem dX10_roundsOn_20 : decode cX10_roundsOn 20 = .ok (.goto 4, 3) := by decide +kernel
theorem dX10_roundsOn_23 : decode cX10_roundsOn 23 = .ok (.iconst 0, 1) := by decide +kernel
theorem dX10_roundsOn_24 : decode cX10_roundsOn 24 = .ok (.istore_n 3, 1) := by decide +kernel
theorem dX10_roundsOn_25 : decode cX10_roundsOn 25 = .ok (.iload_n 3, 1) := by decide +kernel
theorem dX10_roundsOn_26 : decode cX10_roundsOn 26 = .ok (.ifCond .eq 16, 3) := by decide +kernel
theorem dX10_roundsOn_29 : decode cX10_roundsOn 29 = .ok (.aload_n 0, 1) := by decide +kernel
theorem dX10_roundsOn_30 : decode cX10_roundsOn 30 = .ok (.getfield 37, 3) := by decide +kernel
theorem dX10_roundsOn_33 : decode cX10_roundsOn 33 = .ok (.iload_n 1, 1) := by decide +kernel
theorem dX10_roundsOn_34 : decode cX10_roundsOn 34 = .ok (.iconst 4, 1) := by decide +kernel
theorem dX10_roundsOn_35 : decode cX10_roundsOn 35 = .ok (.imul, 1) := by decide +kernel
theorem dX10_roundsOn_36 : decode cX10_roundsOn 36 = .ok (.iload_n 2, 1) := by decide +kernel
theorem dX10_roundsOn_37 : decode cX10_roundsOn 37 = .ok (.iadd, 1) := by decide +kernel
theorem dX10_roundsOn_38 : decode cX10_roundsOn 38 = .ok (.iaload, 1) := by decide +kernel
theorem dX10_roundsOn_39 : decode cX10_roundsOn 39 = .ok (.goto 4, 3) := by decide +kernel
theorem dX10_roundsOn_42 : decode cX10_roundsOn 42 = .ok (.iconst 0, 1) := by decide +kernel
theorem dX10_roundsOn_43 : decode cX10_roundsOn 43 = .ok (.ireturn, 1) := by decide +kernel
theorem dX10_slotOf_0 : decode cX10_slotOf 0 = .ok (.iload_n 0, 1) := by decide +kernel
theorem dX10_slotOf_1 : decode cX10_slotOf 1 = .ok (.ifCond .lt 32, 3) := by decide +kernel
theorem dX10_slotOf_4 : decode cX10_slotOf 4 = .ok (.iload_n 0, 1) := by decide +kernel
theorem dX10_slotOf_5 : decode cX10_slotOf 5 = .ok (.bipush 20, 2) := by decide +kernel
theorem dX10_slotOf_7 : decode cX10_slotOf 7 = .ok (.if_icmp .ge 26, 3) := by decide +kernel
theorem dX10_slotOf_10 : decode cX10_slotOf 10 = .ok (.iload_n 1, 1) := by decide +kernel
theorem dX10_slotOf_11 : decode cX10_slotOf 11 = .ok (.ifCond .lt 22, 3) := by decide +kernel
theorem dX10_slotOf_14 : decode cX10_slotOf 14 = .ok (.iload_n 1, 1) := by decide +kernel
theorem dX10_slotOf_15 : decode cX10_slotOf 15 = .ok (.bipush 40, 2) := by decide +kernel
theorem dX10_slotOf_17 : decode cX10_slotOf 17 = .ok (.if_icmp .ge 16, 3) := by decide +kernel
theorem dX10_slotOf_20 : decode cX10_slotOf 20 = .ok (.iload_n 2, 1) := by decide +kernel
theorem dX10_slotOf_21 : decode cX10_slotOf 21 = .ok (.ifCond .lt 12, 3) := by decide +kernel
theorem dX10_slotOf_24 : decode cX10_slotOf 24 = .ok (.iload_n 2, 1) := by decide +kernel
theorem dX10_slotOf_25 : decode cX10_slotOf 25 = .ok (.iconst 4, 1) := by decide +kernel
theorem dX10_slotOf_26 : decode cX10_slotOf 26 = .ok (.if_icmp .ge 7, 3) := by decide +kernel
theorem dX10_slotOf_29 : decode cX10_slotOf 29 = .ok (.iconst 1, 1) := by decide +kernel
theorem dX10_slotOf_30 : decode cX10_slotOf 30 = .ok (.goto 4, 3) := by decide +kernel
theorem dX10_slotOf_33 : decode cX10_slotOf 33 = .ok (.iconst 0, 1) := by decide +kernel
theorem dX10_slotOf_34 : decode cX10_slotOf 34 = .ok (.istore_n 3, 1) := by decide +kernel
theorem dX10_slotOf_35 : decode cX10_slotOf 35 = .ok (.iload_n 3, 1) := by decide +kernel
theorem dX10_slotOf_36 : decode cX10_slotOf 36 = .ok (.ifCond .eq 16, 3) := by decide +kernel
theorem dX10_slotOf_39 : decode cX10_slotOf 39 = .ok (.iload_n 1, 1) := by decide +kernel
theorem dX10_slotOf_40 : decode cX10_slotOf 40 = .ok (.iconst 4, 1) := by decide +kernel
theorem dX10_slotOf_41 : decode cX10_slotOf 41 = .ok (.imul, 1) := by decide +kernel
theorem dX10_slotOf_42 : decode cX10_slotOf 42 = .ok (.iload_n 2, 1) := by decide +kernel
theorem dX10_slotOf_43 : decode cX10_slotOf 43 = .ok (.iadd, 1) := by decide +kernel
theorem dX10_slotOf_44 : decode cX10_slotOf 44 = .ok (.bipush 20, 2) := by decide +kernel
theorem dX10_slotOf_46 : decode cX10_slotOf 46 = .ok (.imul, 1) := by decide +kernel
theorem dX10_slotOf_47 : decode cX10_slotOf 47 = .ok (.iload_n 0, 1) := by decide +kernel
theorem dX10_slotOf_48 : decode cX10_slotOf 48 = .ok (.iadd, 1) := by decide +kernel
theorem dX10_slotOf_49 : decode cX10_slotOf 49 = .ok (.goto 4, 3) := by decide +kernel
theorem dX10_slotOf_52 : decode cX10_slotOf 52 = .ok (.iconst (-1), 1) := by decide +kernel
theorem dX10_slotOf_53 : decode cX10_slotOf 53 = .ok (.ireturn, 1) := by decide +kernel
set_option maxHeartbeats 4000000 in
set_option maxRecDepth 100000 in
theorem c_isPlayer (l : Launch) (D : va_G) (cI cJ cZ cB : ClassId) (cO : ClassId) (w : Nat → Nat) (v : Int32) :
    CI l D [(cI, .int), (cJ, .long), (cZ, .boolean), (cB, .byte), (cO, .object "LuckLinks$World")] yX10_isPlayer cX10_isPlayer 2 (some .boolean) ({ frames := 0, cells := 0, slots := 0, locals := 0 } : Room) [.ref (w 0), .int v] [((w 0), .inr (10, [.int (0 : Int32), .ref (w 1), .int (0 : Int32), .ref (w 2), .ref (w 3), .int (0 : Int32), .ref (w 4), .ref (w 5), .ref (w 6), .ref (w 7), .ref (w 8), .long (1 : Int64)]))] (fun (r : Int32) (u : Unit) => (r = (0 : Int32) ∧ True)) (fun (_ : Unit) => [((w 0), .inr (10, [.int (0 : Int32), .ref (w 1), .int (0 : Int32), .ref (w 2), .ref (w 3), .int (0 : Int32), .ref (w 4), .ref (w 5), .ref (w 6), .ref (w 7), .ref (w 8), .long (1 : Int64)]))]) := by
  intro sz
  refine body_of (y := yX10_isPlayer) (cc := cX10_isPlayer) (maxL := 2) (ret := (some .boolean)) (rm := ({ frames := 0, cells := 0, slots := 0, locals := 0 } : Room)) (wc := [((w 0), .inr (10, [.int (0 : Int32), .ref (w 1), .int (0 : Int32), .ref (w 2), .ref (w 3), .int (0 : Int32), .ref (w 4), .ref (w 5), .ref (w 6), .ref (w 7), .ref (w 8), .long (1 : Int64)]))]) (tys := [(cI, .int), (cJ, .long), (cZ, .boolean), (cB, .byte), (cO, .object "LuckLinks$World")]) (D := D) (sz := sz) (own := RX10) (av := [.ref (w 0), .int v]) (Qc := fun A => va_Qi (fun (r : Int32) (u : Unit) => (r = (0 : Int32) ∧ True)) (fun u t => Aft D A ((fun (_ : Unit) => [((w 0), .inr (10, [.int (0 : Int32), .ref (w 1), .int (0 : Int32), .ref (w 2), .ref (w 3), .int (0 : Int32), .ref (w 4), .ref (w 5), .ref (w 6), .ref (w 7), .ref (w 8), .long (1 : Int64)]))]) u) t) A) (by decide) rfl (Nat.le_of_ble_eq_true rfl) (fun p e s m below meth c A ls C hr hlk hin X hl => ?_)
  have hx := C.1
  have hb := C.2.1
  have hown := C.2.2.2.1
  have hts := C.2.2.2.2.1
  have hl : lv_has ls 2 [(0, .ref (w 0)), (1, .int v)] := hl
  show W p l e _ s m _ below meth c s.heap [] 0 0 (MQ below (va_Qi (fun (r : Int32) (u : Unit) => (r = (0 : Int32) ∧ True)) (fun u t => Aft D A ((fun (_ : Unit) => [((w 0), .inr (10, [.int (0 : Int32), .ref (w 1), .int (0 : Int32), .ref (w 2), .ref (w 3), .int (0 : Int32), .ref (w 4), .ref (w 5), .ref (w 6), .ref (w 7), .ref (w 8), .long (1 : Int64)]))]) u) t) A) ([.ref (w 0), .int v] : List Value).toArray s 0 0 A) (F0 m 0 ls [])
  have X : Wd D A s [((w 0), .inr (10, [.int (0 : Int32), .ref (w 1), .int (0 : Int32), .ref (w 2), .ref (w 3), .int (0 : Int32), .ref (w 4), .ref (w 5), .ref (w 6), .ref (w 7), .ref (w 8), .long (1 : Int64)]))] s.heap [] := X
  obtain ⟨H, locs, eH, eL⟩ : ∃ H locs, H = s.heap ∧ locs = ([] : List Loc) := ⟨_, _, rfl, rfl⟩
  rw [← eH, ← eL] at X ⊢
  clear eH eL
  refine lv_iload_n hx hb dX10_isPlayer_0 rfl (lv_at hl 1 rfl) ?_
  refine lv_if_lt (tgt := 16) hx hb dX10_isPlayer_1 (by decide) (fun c_1 => ?_) (fun c_1 => ?_)
  · have fc_1 : (v).toInt < (0 : Int) := i_lt c_1
    refine lv_iconst (v := (0 : Int32)) hx hb dX10_isPlayer_16 (by decide) ?_
    exact x_iret C X hr hlk (v := (0 : Int32)) (by first | rfl | decide) (()) [0] (by decide) rfl (⟨rfl, trivial⟩) (Nat.le_of_ble_eq_true rfl) (Nat.le_of_ble_eq_true rfl) dX10_isPlayer_17
  · have fc_1 : (0 : Int) ≤ (v).toInt := i_nlt c_1
    refine lv_iload_n hx hb dX10_isPlayer_4 rfl (lv_at hl 1 rfl) ?_
    refine lv_aload_n hx hb dX10_isPlayer_5 rfl (lv_at hl 0 rfl) ?_
    refine x_get (own := RX10) (T := TX10) C X 0 rfl rfl 0 (by decide) k_3_17 rfl rfl (v := .int (0 : Int32)) rfl dX10_isPlayer_6 ?_
    refine lv_icmp_ge (tgt := 16) hx hb dX10_isPlayer_9 (by decide) (fun c_2 => ?_) (fun c_2 => by exfalso; have h8 : (v).toInt < (0 : Int) := i_nle c_2; omega)
    have fc_2 : (0 : Int) ≤ (v).toInt := i_le c_2
    refine lv_iconst (v := (0 : Int32)) hx hb dX10_isPlayer_16 (by decide) ?_
    exact x_iret C X hr hlk (v := (0 : Int32)) (by first | rfl | decide) (()) [0] (by decide) rfl (⟨rfl, trivial⟩) (Nat.le_of_ble_eq_true rfl) (Nat.le_of_ble_eq_true rfl) dX10_isPlayer_17
set_option maxHeartbeats 4000000 in
set_option maxRecDepth 100000 in
theorem c_courseOf (l : Launch) (D : va_G) (cI cJ cZ cB : ClassId) (cO : ClassId) (w : Nat → Nat) (v : Int32) :
    CI l D [(cI, .int), (cJ, .long), (cZ, .boolean), (cB, .byte), (cO, .object "LuckLinks$World")] yX10_courseOf cX10_courseOf 2 (some .int) ({ frames := 2, cells := 0, slots := 0, locals := 42 } : Room) [.ref (w 0), .int v] [((w 0), .inr (10, [.int (0 : Int32), .ref (w 1), .int (0 : Int32), .ref (w 2), .ref (w 3), .int (0 : Int32), .ref (w 4), .ref (w 5), .ref (w 6), .ref (w 7), .ref (w 8), .long (1 : Int64)])), ((w 3), .inl (cI, 40, .inl (fun _ => (-1 : Int32))))] (fun (r : Int32) (u : Unit) => (r = (-1 : Int32) ∧ True)) (fun (_ : Unit) => [((w 0), .inr (10, [.int (0 : Int32), .ref (w 1), .int (0 : Int32), .ref (w 2), .ref (w 3), .int (0 : Int32), .ref (w 4), .ref (w 5), .ref (w 6), .ref (w 7), .ref (w 8), .long (1 : Int64)])), ((w 3), .inl (cI, 40, .inl (fun _ => (-1 : Int32))))]) := by
  intro sz
  refine body_of (y := yX10_courseOf) (cc := cX10_courseOf) (maxL := 2) (ret := (some .int)) (rm := ({ frames := 2, cells := 0, slots := 0, locals := 42 } : Room)) (wc := [((w 0), .inr (10, [.int (0 : Int32), .ref (w 1), .int (0 : Int32), .ref (w 2), .ref (w 3), .int (0 : Int32), .ref (w 4), .ref (w 5), .ref (w 6), .ref (w 7), .ref (w 8), .long (1 : Int64)])), ((w 3), .inl (cI, 40, .inl (fun _ => (-1 : Int32))))]) (tys := [(cI, .int), (cJ, .long), (cZ, .boolean), (cB, .byte), (cO, .object "LuckLinks$World")]) (D := D) (sz := sz) (own := RX10) (av := [.ref (w 0), .int v]) (Qc := fun A => va_Qi (fun (r : Int32) (u : Unit) => (r = (-1 : Int32) ∧ True)) (fun u t => Aft D A ((fun (_ : Unit) => [((w 0), .inr (10, [.int (0 : Int32), .ref (w 1), .int (0 : Int32), .ref (w 2), .ref (w 3), .int (0 : Int32), .ref (w 4), .ref (w 5), .ref (w 6), .ref (w 7), .ref (w 8), .long (1 : Int64)])), ((w 3), .inl (cI, 40, .inl (fun _ => (-1 : Int32))))]) u) t) A) (by decide) rfl (Nat.le_of_ble_eq_true rfl) (fun p e s m below meth c A ls C hr hlk hin X hl => ?_)
  have hx := C.1
  have hb := C.2.1
  have hown := C.2.2.2.1
  have hts := C.2.2.2.2.1
  have hl : lv_has ls 2 [(0, .ref (w 0)), (1, .int v)] := hl
  show W p l e _ s m _ below meth c s.heap [] 0 0 (MQ below (va_Qi (fun (r : Int32) (u : Unit) => (r = (-1 : Int32) ∧ True)) (fun u t => Aft D A ((fun (_ : Unit) => [((w 0), .inr (10, [.int (0 : Int32), .ref (w 1), .int (0 : Int32), .ref (w 2), .ref (w 3), .int (0 : Int32), .ref (w 4), .ref (w 5), .ref (w 6), .ref (w 7), .ref (w 8), .long (1 : Int64)])), ((w 3), .inl (cI, 40, .inl (fun _ => (-1 : Int32))))]) u) t) A) ([.ref (w 0), .int v] : List Value).toArray s 0 0 A) (F0 m 0 ls [])
  have X : Wd D A s [((w 0), .inr (10, [.int (0 : Int32), .ref (w 1), .int (0 : Int32), .ref (w 2), .ref (w 3), .int (0 : Int32), .ref (w 4), .ref (w 5), .ref (w 6), .ref (w 7), .ref (w 8), .long (1 : Int64)])), ((w 3), .inl (cI, 40, .inl (fun _ => (-1 : Int32))))] s.heap [] := X
  obtain ⟨H, locs, eH, eL⟩ : ∃ H locs, H = s.heap ∧ locs = ([] : List Loc) := ⟨_, _, rfl, rfl⟩
  rw [← eH, ← eL] at X ⊢
  clear eH eL
  refine lv_iload_n hx hb dX10_courseOf_0 rfl (lv_at hl 1 rfl) ?_
  refine x_cN (own := RX10) (wr := [((w 0), .inr (10, [.int (0 : Int32), .ref (w 1), .int (0 : Int32), .ref (w 2), .ref (w 3), .int (0 : Int32), .ref (w 4), .ref (w 5), .ref (w 6), .ref (w 7), .ref (w 8), .long (1 : Int64)])), ((w 3), .inl (cI, 40, .inl (fun _ => (-1 : Int32))))]) (As := [.int v]) C X hl.1 (c_isWeek l D cI cJ cZ cB cO v) [] [0, 1] ⟨rfl, rfl, by decide, by decide, by decide⟩ k_14_1 k_1_2 k_14_2 rfl (n := 1) (by decide +kernel) ⟨Nat.le_of_ble_eq_true rfl, Nat.le_of_ble_eq_true rfl⟩ rfl rfl (Nat.le_of_ble_eq_true rfl) dX10_courseOf_1 ⟨Nat.le_of_ble_eq_true rfl, Nat.le_of_ble_eq_true rfl⟩ (fun r_2 u_1 H locs w_3 X => ?_)
  have X : Wd D A s [((w 0), .inr (10, [.int (0 : Int32), .ref (w 1), .int (0 : Int32), .ref (w 2), .ref (w 3), .int (0 : Int32), .ref (w 4), .ref (w 5), .ref (w 6), .ref (w 7), .ref (w 8), .long (1 : Int64)])), ((w 3), .inl (cI, 40, .inl (fun _ => (-1 : Int32))))] H locs := X
  refine W.widen (k := 0) (n := 0) (Nat.le_of_ble_eq_true rfl) (Nat.le_of_ble_eq_true rfl) ?_
  obtain ⟨rfl, fw_3⟩ | ⟨rfl, fw_3⟩ : (r_2 = (1 : Int32) ∧ (0 ≤ (v).toInt ∧ (v).toInt ≤ 39)) ∨ (r_2 = (0 : Int32) ∧ ((v).toInt < 0 ∨ 39 < (v).toInt)) := w_3
  · refine lv_if_eq (tgt := 16) hx hb dX10_courseOf_4 (by decide) (fun c0 => absurd c0 (by decide)) (fun _ => ?_)
    refine lv_aload_n hx hb dX10_courseOf_7 rfl (lv_at hl 0 rfl) ?_
    refine x_get (own := RX10) (T := TX10) C X 0 rfl rfl 4 (by decide) k_3_21 rfl rfl (v := .ref (w 3)) rfl dX10_courseOf_8 ?_
    refine lv_iload_n hx hb dX10_courseOf_11 rfl (lv_at hl 1 rfl) ?_
    refine x_iald C X 1 0 rfl rfl (j := (v).toInt.toNat) rfl (vp_in_iff.mpr ⟨by omega, by omega⟩) (v := (-1 : Int32)) (rfl) dX10_courseOf_12 ?_
    refine lv_goto (tgt := 17) hx hb dX10_courseOf_13 (by decide) ?_
    exact x_iret C X hr hlk (v := (-1 : Int32)) (by first | rfl | decide) (()) [0, 1] (by decide) rfl (⟨rfl, trivial⟩) (Nat.le_of_ble_eq_true rfl) (Nat.le_of_ble_eq_true rfl) dX10_courseOf_17
  · refine lv_if_eq (tgt := 16) hx hb dX10_courseOf_4 (by decide) (fun _ => ?_) (fun c0 => absurd (by decide) c0)
    refine lv_iconst (v := (-1 : Int32)) hx hb dX10_courseOf_16 (by decide) ?_
    exact x_iret C X hr hlk (v := (-1 : Int32)) (by first | rfl | decide) (()) [0, 1] (by decide) rfl (⟨rfl, trivial⟩) (Nat.le_of_ble_eq_true rfl) (Nat.le_of_ble_eq_true rfl) dX10_courseOf_17
set_option maxHeartbeats 4000000 in
set_option maxRecDepth 100000 in
theorem c_roundsOn (l : Launch) (D : va_G) (cI cJ cZ cB : ClassId) (cO : ClassId) (w : Nat → Nat) (wk dy : Int32) :
    CI l D [(cI, .int), (cJ, .long), (cZ, .boolean), (cB, .byte), (cO, .object "LuckLinks$World")] yX10_roundsOn cX10_roundsOn 4 (some .int) ({ frames := 0, cells := 0, slots := 0, locals := 0 } : Room) [.ref (w 0), .int wk, .int dy] [((w 0), .inr (10, [.int (0 : Int32), .ref (w 1), .int (0 : Int32), .ref (w 2), .ref (w 3), .int (0 : Int32), .ref (w 4), .ref (w 5), .ref (w 6), .ref (w 7), .ref (w 8), .long (1 : Int64)])), ((w 6), .inl (cI, 160, .inl (fun _ => (0 : Int32))))] (fun (r : Int32) (u : Unit) => (r = (0 : Int32) ∧ True)) (fun (_ : Unit) => [((w 0), .inr (10, [.int (0 : Int32), .ref (w 1), .int (0 : Int32), .ref (w 2), .ref (w 3), .int (0 : Int32), .ref (w 4), .ref (w 5), .ref (w 6), .ref (w 7), .ref (w 8), .long (1 : Int64)])), ((w 6), .inl (cI, 160, .inl (fun _ => (0 : Int32))))]) := by
  intro sz
  refine body_of (y := yX10_roundsOn) (cc := cX10_roundsOn) (maxL := 4) (ret := (some .int)) (rm := ({ frames := 0, cells := 0, slots := 0, locals := 0 } : Room)) (wc := [((w 0), .inr (10, [.int (0 : Int32), .ref (w 1), .int (0 : Int32), .ref (w 2), .ref (w 3), .int (0 : Int32), .ref (w 4), .ref (w 5), .ref (w 6), .ref (w 7), .ref (w 8), .long (1 : Int64)])), ((w 6), .inl (cI, 160, .inl (fun _ => (0 : Int32))))]) (tys := [(cI, .int), (cJ, .long), (cZ, .boolean), (cB, .byte), (cO, .object "LuckLinks$World")]) (D := D) (sz := sz) (own := RX10) (av := [.ref (w 0), .int wk, .int dy]) (Qc := fun A => va_Qi (fun (r : Int32) (u : Unit) => (r = (0 : Int32) ∧ True)) (fun u t => Aft D A ((fun (_ : Unit) => [((w 0), .inr (10, [.int (0 : Int32), .ref (w 1), .int (0 : Int32), .ref (w 2), .ref (w 3), .int (0 : Int32), .ref (w 4), .ref (w 5), .ref (w 6), .ref (w 7), .ref (w 8), .long (1 : Int64)])), ((w 6), .inl (cI, 160, .inl (fun _ => (0 : Int32))))]) u) t) A) (by decide) rfl (Nat.le_of_ble_eq_true rfl) (fun p e s m below meth c A ls C hr hlk hin X hl => ?_)
  have hx := C.1
  have hb := C.2.1
  have hown := C.2.2.2.1
  have hts := C.2.2.2.2.1
  have hl : lv_has ls 4 [(0, .ref (w 0)), (1, .int wk), (2, .int dy)] := hl
  show W p l e _ s m _ below meth c s.heap [] 0 0 (MQ below (va_Qi (fun (r : Int32) (u : Unit) => (r = (0 : Int32) ∧ True)) (fun u t => Aft D A ((fun (_ : Unit) => [((w 0), .inr (10, [.int (0 : Int32), .ref (w 1), .int (0 : Int32), .ref (w 2), .ref (w 3), .int (0 : Int32), .ref (w 4), .ref (w 5), .ref (w 6), .ref (w 7), .ref (w 8), .long (1 : Int64)])), ((w 6), .inl (cI, 160, .inl (fun _ => (0 : Int32))))]) u) t) A) ([.ref (w 0), .int wk, .int dy] : List Value).toArray s 0 0 A) (F0 m 0 ls [])
  have X : Wd D A s [((w 0), .inr (10, [.int (0 : Int32), .ref (w 1), .int (0 : Int32), .ref (w 2), .ref (w 3), .int (0 : Int32), .ref (w 4), .ref (w 5), .ref (w 6), .ref (w 7), .ref (w 8), .long (1 : Int64)])), ((w 6), .inl (cI, 160, .inl (fun _ => (0 : Int32))))] s.heap [] := X
  obtain ⟨H, locs, eH, eL⟩ : ∃ H locs, H = s.heap ∧ locs = ([] : List Loc) := ⟨_, _, rfl, rfl⟩
  rw [← eH, ← eL] at X ⊢
  clear eH eL
  refine lv_iload_n hx hb dX10_roundsOn_0 rfl (lv_at hl 1 rfl) ?_
  refine lv_if_lt (tgt := 23) hx hb dX10_roundsOn_1 (by decide) (fun c_1 => ?_) (fun c_1 => ?_)
  · have fc_1 : (wk).toInt < (0 : Int) := i_lt c_1
    refine lv_iconst (v := (0 : Int32)) hx hb dX10_roundsOn_23 (by decide) ?_
    refine lv_istore_n (lv' := [(3, .int (0 : Int32)), (0, .ref (w 0)), (1, .int wk), (2, .int dy)]) hx hb dX10_roundsOn_24 rfl hl (by decide) rfl (fun ls hl => ?_)
    refine lv_iload_n hx hb dX10_roundsOn_25 rfl (lv_at hl 0 rfl) ?_
    refine lv_if_eq (tgt := 42) hx hb dX10_roundsOn_26 (by decide) (fun _ => ?_) (fun c0 => absurd (by decide) c0)
    refine lv_iconst (v := (0 : Int32)) hx hb dX10_roundsOn_42 (by decide) ?_
    exact x_iret C X hr hlk (v := (0 : Int32)) (by first | rfl | decide) (()) [0, 1] (by decide) rfl (⟨rfl, trivial⟩) (Nat.le_of_ble_eq_true rfl) (Nat.le_of_ble_eq_true rfl) dX10_roundsOn_43
  · have fc_1 : (0 : Int) ≤ (wk).toInt := i_nlt c_1
    refine lv_iload_n hx hb dX10_roundsOn_4 rfl (lv_at hl 1 rfl) ?_
    refine lv_bipush (v := (40 : Int32)) hx hb dX10_roundsOn_5 (by decide) ?_
    refine lv_icmp_ge (tgt := 23) hx hb dX10_roundsOn_7 (by decide) (fun c_2 => ?_) (fun c_2 => ?_)
    · have fc_2 : (40 : Int) ≤ (wk).toInt := i_le c_2
      refine lv_iconst (v := (0 : Int32)) hx hb dX10_roundsOn_23 (by decide) ?_
      refine lv_istore_n (lv' := [(3, .int (0 : Int32)), (0, .ref (w 0)), (1, .int wk), (2, .int dy)]) hx hb dX10_roundsOn_24 rfl hl (by decide) rfl (fun ls hl => ?_)
      refine lv_iload_n hx hb dX10_roundsOn_25 rfl (lv_at hl 0 rfl) ?_
      refine lv_if_eq (tgt := 42) hx hb dX10_roundsOn_26 (by decide) (fun _ => ?_) (fun c0 => absurd (by decide) c0)
      refine lv_iconst (v := (0 : Int32)) hx hb dX10_roundsOn_42 (by decide) ?_
      exact x_iret C X hr hlk (v := (0 : Int32)) (by first | rfl | decide) (()) [0, 1] (by decide) rfl (⟨rfl, trivial⟩) (Nat.le_of_ble_eq_true rfl) (Nat.le_of_ble_eq_true rfl) dX10_roundsOn_43
    · have fc_2 : (wk).toInt < (40 : Int) := i_nle c_2
      refine lv_iload_n hx hb dX10_roundsOn_10 rfl (lv_at hl 2 rfl) ?_
      refine lv_if_lt (tgt := 23) hx hb dX10_roundsOn_11 (by decide) (fun c_3 => ?_) (fun c_3 => ?_)
      · have fc_3 : (dy).toInt < (0 : Int) := i_lt c_3
        refine lv_iconst (v := (0 : Int32)) hx hb dX10_roundsOn_23 (by decide) ?_
        refine lv_istore_n (lv' := [(3, .int (0 : Int32)), (0, .ref (w 0)), (1, .int wk), (2, .int dy)]) hx hb dX10_roundsOn_24 rfl hl (by decide) rfl (fun ls hl => ?_)
        refine lv_iload_n hx hb dX10_roundsOn_25 rfl (lv_at hl 0 rfl) ?_
        refine lv_if_eq (tgt := 42) hx hb dX10_roundsOn_26 (by decide) (fun _ => ?_) (fun c0 => absurd (by decide) c0)
        refine lv_iconst (v := (0 : Int32)) hx hb dX10_roundsOn_42 (by decide) ?_
        exact x_iret C X hr hlk (v := (0 : Int32)) (by first | rfl | decide) (()) [0, 1] (by decide) rfl (⟨rfl, trivial⟩) (Nat.le_of_ble_eq_true rfl) (Nat.le_of_ble_eq_true rfl) dX10_roundsOn_43
      · have fc_3 : (0 : Int) ≤ (dy).toInt := i_nlt c_3
        refine lv_iload_n hx hb dX10_roundsOn_14 rfl (lv_at hl 2 rfl) ?_
        refine lv_iconst (v := (4 : Int32)) hx hb dX10_roundsOn_15 (by decide) ?_
        refine lv_icmp_ge (tgt := 23) hx hb dX10_roundsOn_16 (by decide) (fun c_4 => ?_) (fun c_4 => ?_)
        · have fc_4 : (4 : Int) ≤ (dy).toInt := i_le c_4
          refine lv_iconst (v := (0 : Int32)) hx hb dX10_roundsOn_23 (by decide) ?_
          refine lv_istore_n (lv' := [(3, .int (0 : Int32)), (0, .ref (w 0)), (1, .int wk), (2, .int dy)]) hx hb dX10_roundsOn_24 rfl hl (by decide) rfl (fun ls hl => ?_)
          refine lv_iload_n hx hb dX10_roundsOn_25 rfl (lv_at hl 0 rfl) ?_
          refine lv_if_eq (tgt := 42) hx hb dX10_roundsOn_26 (by decide) (fun _ => ?_) (fun c0 => absurd (by decide) c0)
          refine lv_iconst (v := (0 : Int32)) hx hb dX10_roundsOn_42 (by decide) ?_
          exact x_iret C X hr hlk (v := (0 : Int32)) (by first | rfl | decide) (()) [0, 1] (by decide) rfl (⟨rfl, trivial⟩) (Nat.le_of_ble_eq_true rfl) (Nat.le_of_ble_eq_true rfl) dX10_roundsOn_43
        · have fc_4 : (dy).toInt < (4 : Int) := i_nle c_4
          obtain ⟨kw, hkw, rfl⟩ := i_ex (x := wk) 40 (by omega) (by omega)
          have ekw : (nI kw).toInt = (kw : Int) := nI_toInt (by omega)
          obtain ⟨kd, hkd, rfl⟩ := i_ex (x := dy) 4 (by omega) (by omega)
          have ekd : (nI kd).toInt = (kd : Int) := nI_toInt (by omega)
          refine lv_iconst (v := (1 : Int32)) hx hb dX10_roundsOn_19 (by decide) ?_
          refine lv_goto (tgt := 24) hx hb dX10_roundsOn_20 (by decide) ?_
          refine lv_istore_n (lv' := [(3, .int (1 : Int32)), (0, .ref (w 0)), (1, .int (nI (kw))), (2, .int (nI (kd)))]) hx hb dX10_roundsOn_24 rfl hl (by decide) rfl (fun ls hl => ?_)
          refine lv_iload_n hx hb dX10_roundsOn_25 rfl (lv_at hl 0 rfl) ?_
          refine lv_if_eq (tgt := 42) hx hb dX10_roundsOn_26 (by decide) (fun c0 => absurd c0 (by decide)) (fun _ => ?_)
          refine lv_aload_n hx hb dX10_roundsOn_29 rfl (lv_at hl 1 rfl) ?_
          refine x_get (own := RX10) (T := TX10) C X 0 rfl rfl 8 (by decide) k_4_1 rfl rfl (v := .ref (w 6)) rfl dX10_roundsOn_30 ?_
          refine lv_iload_n hx hb dX10_roundsOn_33 rfl (lv_at hl 2 rfl) ?_
          refine lv_iconst (v := (4 : Int32)) hx hb dX10_roundsOn_34 (by decide) ?_
          refine lv_imul hx hb dX10_roundsOn_35 ?_
          refine x_eqi (show (nI (kw)) * (4 : Int32) = (nI (kw * 4)) from pk_mul kw 4) ?_
          refine lv_iload_n hx hb dX10_roundsOn_36 rfl (lv_at hl 3 rfl) ?_
          refine lv_iadd hx hb dX10_roundsOn_37 ?_
          refine x_eqi (show (nI (kw * 4)) + (nI (kd)) = (nI ((kw * 4) + kd)) from nI_add (kw * 4) kd) ?_
          refine x_iald C X 1 0 rfl rfl (j := (kw * 4) + kd) (nI_clamp (by omega)) (vp_in_nI (by omega) (by omega)) (v := (0 : Int32)) (rfl) dX10_roundsOn_38 ?_
          refine lv_goto (tgt := 43) hx hb dX10_roundsOn_39 (by decide) ?_
          exact x_iret C X hr hlk (v := (0 : Int32)) (by first | rfl | decide) (()) [0, 1] (by decide) rfl (⟨rfl, trivial⟩) (Nat.le_of_ble_eq_true rfl) (Nat.le_of_ble_eq_true rfl) dX10_roundsOn_43
set_option maxHeartbeats 4000000 in
set_option maxRecDepth 100000 in
theorem c_slotOf (l : Launch) (D : va_G) (cI cJ cZ cB : ClassId) (cO : ClassId) (pl wk dy : Int32) :
    CI l D [(cI, .int), (cJ, .long), (cZ, .boolean), (cB, .byte), (cO, .object "LuckLinks$World")] yX10_slotOf cX10_slotOf 4 (some .int) ({ frames := 0, cells := 0, slots := 0, locals := 0 } : Room) [.int pl, .int wk, .int dy] [] (fun (r : Int32) (u : Nat) => match u with | u => (r = (-1 : Int32) ∧ True) ∨ (r = (nI (u)) ∧ u < 3200)) (fun (u : Nat) => match u with | u => []) := by
  intro sz
  refine body_of (y := yX10_slotOf) (cc := cX10_slotOf) (maxL := 4) (ret := (some .int)) (rm := ({ frames := 0, cells := 0, slots := 0, locals := 0 } : Room)) (wc := []) (tys := [(cI, .int), (cJ, .long), (cZ, .boolean), (cB, .byte), (cO, .object "LuckLinks$World")]) (D := D) (sz := sz) (own := RX10) (av := [.int pl, .int wk, .int dy]) (Qc := fun A => va_Qi (fun (r : Int32) (u : Nat) => match u with | u => (r = (-1 : Int32) ∧ True) ∨ (r = (nI (u)) ∧ u < 3200)) (fun u t => Aft D A ((fun (u : Nat) => match u with | u => []) u) t) A) (by decide) rfl (Nat.le_of_ble_eq_true rfl) (fun p e s m below meth c A ls C hr hlk hin X hl => ?_)
  have hx := C.1
  have hb := C.2.1
  have hown := C.2.2.2.1
  have hts := C.2.2.2.2.1
  have hl : lv_has ls 4 [(0, .int pl), (1, .int wk), (2, .int dy)] := hl
  show W p l e _ s m _ below meth c s.heap [] 0 0 (MQ below (va_Qi (fun (r : Int32) (u : Nat) => match u with | u => (r = (-1 : Int32) ∧ True) ∨ (r = (nI (u)) ∧ u < 3200)) (fun u t => Aft D A ((fun (u : Nat) => match u with | u => []) u) t) A) ([.int pl, .int wk, .int dy] : List Value).toArray s 0 0 A) (F0 m 0 ls [])
  have X : Wd D A s [] s.heap [] := X
  obtain ⟨H, locs, eH, eL⟩ : ∃ H locs, H = s.heap ∧ locs = ([] : List Loc) := ⟨_, _, rfl, rfl⟩
  rw [← eH, ← eL] at X ⊢
  clear eH eL
  refine lv_iload_n hx hb dX10_slotOf_0 rfl (lv_at hl 0 rfl) ?_
  refine lv_if_lt (tgt := 33) hx hb dX10_slotOf_1 (by decide) (fun c_1 => ?_) (fun c_1 => ?_)
  · have fc_1 : (pl).toInt < (0 : Int) := i_lt c_1
    refine lv_iconst (v := (0 : Int32)) hx hb dX10_slotOf_33 (by decide) ?_
    refine lv_istore_n (lv' := [(3, .int (0 : Int32)), (0, .int pl), (1, .int wk), (2, .int dy)]) hx hb dX10_slotOf_34 rfl hl (by decide) rfl (fun ls hl => ?_)
    refine lv_iload_n hx hb dX10_slotOf_35 rfl (lv_at hl 0 rfl) ?_
    refine lv_if_eq (tgt := 52) hx hb dX10_slotOf_36 (by decide) (fun _ => ?_) (fun c0 => absurd (by decide) c0)
    refine lv_iconst (v := (-1 : Int32)) hx hb dX10_slotOf_52 (by decide) ?_
    exact x_iret C X hr hlk (v := (-1 : Int32)) (by first | rfl | decide) (0) [] (by decide) rfl (Or.inl (⟨rfl, trivial⟩)) (Nat.le_of_ble_eq_true rfl) (Nat.le_of_ble_eq_true rfl) dX10_slotOf_53
  · have fc_1 : (0 : Int) ≤ (pl).toInt := i_nlt c_1
    refine lv_iload_n hx hb dX10_slotOf_4 rfl (lv_at hl 0 rfl) ?_
    refine lv_bipush (v := (20 : Int32)) hx hb dX10_slotOf_5 (by decide) ?_
    refine lv_icmp_ge (tgt := 33) hx hb dX10_slotOf_7 (by decide) (fun c_2 => ?_) (fun c_2 => ?_)
    · have fc_2 : (20 : Int) ≤ (pl).toInt := i_le c_2
      refine lv_iconst (v := (0 : Int32)) hx hb dX10_slotOf_33 (by decide) ?_
      refine lv_istore_n (lv' := [(3, .int (0 : Int32)), (0, .int pl), (1, .int wk), (2, .int dy)]) hx hb dX10_slotOf_34 rfl hl (by decide) rfl (fun ls hl => ?_)
      refine lv_iload_n hx hb dX10_slotOf_35 rfl (lv_at hl 0 rfl) ?_
      refine lv_if_eq (tgt := 52) hx hb dX10_slotOf_36 (by decide) (fun _ => ?_) (fun c0 => absurd (by decide) c0)
      refine lv_iconst (v := (-1 : Int32)) hx hb dX10_slotOf_52 (by decide) ?_
      exact x_iret C X hr hlk (v := (-1 : Int32)) (by first | rfl | decide) (0) [] (by decide) rfl (Or.inl (⟨rfl, trivial⟩)) (Nat.le_of_ble_eq_true rfl) (Nat.le_of_ble_eq_true rfl) dX10_slotOf_53
    · have fc_2 : (pl).toInt < (20 : Int) := i_nle c_2
      refine lv_iload_n hx hb dX10_slotOf_10 rfl (lv_at hl 1 rfl) ?_
      refine lv_if_lt (tgt := 33) hx hb dX10_slotOf_11 (by decide) (fun c_3 => ?_) (fun c_3 => ?_)
      · have fc_3 : (wk).toInt < (0 : Int) := i_lt c_3
        refine lv_iconst (v := (0 : Int32)) hx hb dX10_slotOf_33 (by decide) ?_
        refine lv_istore_n (lv' := [(3, .int (0 : Int32)), (0, .int pl), (1, .int wk), (2, .int dy)]) hx hb dX10_slotOf_34 rfl hl (by decide) rfl (fun ls hl => ?_)
        refine lv_iload_n hx hb dX10_slotOf_35 rfl (lv_at hl 0 rfl) ?_
        refine lv_if_eq (tgt := 52) hx hb dX10_slotOf_36 (by decide) (fun _ => ?_) (fun c0 => absurd (by decide) c0)
        refine lv_iconst (v := (-1 : Int32)) hx hb dX10_slotOf_52 (by decide) ?_
        exact x_iret C X hr hlk (v := (-1 : Int32)) (by first | rfl | decide) (0) [] (by decide) rfl (Or.inl (⟨rfl, trivial⟩)) (Nat.le_of_ble_eq_true rfl) (Nat.le_of_ble_eq_true rfl) dX10_slotOf_53
      · have fc_3 : (0 : Int) ≤ (wk).toInt := i_nlt c_3
        refine lv_iload_n hx hb dX10_slotOf_14 rfl (lv_at hl 1 rfl) ?_
        refine lv_bipush (v := (40 : Int32)) hx hb dX10_slotOf_15 (by decide) ?_
        refine lv_icmp_ge (tgt := 33) hx hb dX10_slotOf_17 (by decide) (fun c_4 => ?_) (fun c_4 => ?_)
        · have fc_4 : (40 : Int) ≤ (wk).toInt := i_le c_4
          refine lv_iconst (v := (0 : Int32)) hx hb dX10_slotOf_33 (by decide) ?_
          refine lv_istore_n (lv' := [(3, .int (0 : Int32)), (0, .int pl), (1, .int wk), (2, .int dy)]) hx hb dX10_slotOf_34 rfl hl (by decide) rfl (fun ls hl => ?_)
          refine lv_iload_n hx hb dX10_slotOf_35 rfl (lv_at hl 0 rfl) ?_
          refine lv_if_eq (tgt := 52) hx hb dX10_slotOf_36 (by decide) (fun _ => ?_) (fun c0 => absurd (by decide) c0)
          refine lv_iconst (v := (-1 : Int32)) hx hb dX10_slotOf_52 (by decide) ?_
          exact x_iret C X hr hlk (v := (-1 : Int32)) (by first | rfl | decide) (0) [] (by decide) rfl (Or.inl (⟨rfl, trivial⟩)) (Nat.le_of_ble_eq_true rfl) (Nat.le_of_ble_eq_true rfl) dX10_slotOf_53
        · have fc_4 : (wk).toInt < (40 : Int) := i_nle c_4
          refine lv_iload_n hx hb dX10_slotOf_20 rfl (lv_at hl 2 rfl) ?_
          refine lv_if_lt (tgt := 33) hx hb dX10_slotOf_21 (by decide) (fun c_5 => ?_) (fun c_5 => ?_)
          · have fc_5 : (dy).toInt < (0 : Int) := i_lt c_5
            refine lv_iconst (v := (0 : Int32)) hx hb dX10_slotOf_33 (by decide) ?_
            refine lv_istore_n (lv' := [(3, .int (0 : Int32)), (0, .int pl), (1, .int wk), (2, .int dy)]) hx hb dX10_slotOf_34 rfl hl (by decide) rfl (fun ls hl => ?_)
            refine lv_iload_n hx hb dX10_slotOf_35 rfl (lv_at hl 0 rfl) ?_
            refine lv_if_eq (tgt := 52) hx hb dX10_slotOf_36 (by decide) (fun _ => ?_) (fun c0 => absurd (by decide) c0)
            refine lv_iconst (v := (-1 : Int32)) hx hb dX10_slotOf_52 (by decide) ?_
            exact x_iret C X hr hlk (v := (-1 : Int32)) (by first | rfl | decide) (0) [] (by decide) rfl (Or.inl (⟨rfl, trivial⟩)) (Nat.le_of_ble_eq_true rfl) (Nat.le_of_ble_eq_true rfl) dX10_slotOf_53
          · have fc_5 : (0 : Int) ≤ (dy).toInt := i_nlt c_5
            refine lv_iload_n hx hb dX10_slotOf_24 rfl (lv_at hl 2 rfl) ?_
            refine lv_iconst (v := (4 : Int32)) hx hb dX10_slotOf_25 (by decide) ?_
            refine lv_icmp_ge (tgt := 33) hx hb dX10_slotOf_26 (by decide) (fun c_6 => ?_) (fun c_6 => ?_)
            · have fc_6 : (4 : Int) ≤ (dy).toInt := i_le c_6
              refine lv_iconst (v := (0 : Int32)) hx hb dX10_slotOf_33 (by decide) ?_
              refine lv_istore_n (lv' := [(3, .int (0 : Int32)), (0, .int pl), (1, .int wk), (2, .int dy)]) hx hb dX10_slotOf_34 rfl hl (by decide) rfl (fun ls hl => ?_)
              refine lv_iload_n hx hb dX10_slotOf_35 rfl (lv_at hl 0 rfl) ?_
              refine lv_if_eq (tgt := 52) hx hb dX10_slotOf_36 (by decide) (fun _ => ?_) (fun c0 => absurd (by decide) c0)
              refine lv_iconst (v := (-1 : Int32)) hx hb dX10_slotOf_52 (by decide) ?_
              exact x_iret C X hr hlk (v := (-1 : Int32)) (by first | rfl | decide) (0) [] (by decide) rfl (Or.inl (⟨rfl, trivial⟩)) (Nat.le_of_ble_eq_true rfl) (Nat.le_of_ble_eq_true rfl) dX10_slotOf_53
            · have fc_6 : (dy).toInt < (4 : Int) := i_nle c_6
              obtain ⟨kw, hkw, rfl⟩ := i_ex (x := wk) 40 (by omega) (by omega)
              have ekw : (nI kw).toInt = (kw : Int) := nI_toInt (by omega)
              obtain ⟨kd, hkd, rfl⟩ := i_ex (x := dy) 4 (by omega) (by omega)
              have ekd : (nI kd).toInt = (kd : Int) := nI_toInt (by omega)
              obtain ⟨kp, hkp, rfl⟩ := i_ex (x := pl) 20 (by omega) (by omega)
              have ekp : (nI kp).toInt = (kp : Int) := nI_toInt (by omega)
              refine lv_iconst (v := (1 : Int32)) hx hb dX10_slotOf_29 (by decide) ?_
              refine lv_goto (tgt := 34) hx hb dX10_slotOf_30 (by decide) ?_
              refine lv_istore_n (lv' := [(3, .int (1 : Int32)), (0, .int (nI (kp))), (1, .int (nI (kw))), (2, .int (nI (kd)))]) hx hb dX10_slotOf_34 rfl hl (by decide) rfl (fun ls hl => ?_)
              refine lv_iload_n hx hb dX10_slotOf_35 rfl (lv_at hl 0 rfl) ?_
              refine lv_if_eq (tgt := 52) hx hb dX10_slotOf_36 (by decide) (fun c0 => absurd c0 (by decide)) (fun _ => ?_)
              refine lv_iload_n hx hb dX10_slotOf_39 rfl (lv_at hl 2 rfl) ?_
              refine lv_iconst (v := (4 : Int32)) hx hb dX10_slotOf_40 (by decide) ?_
              refine lv_imul hx hb dX10_slotOf_41 ?_
              refine x_eqi (show (nI (kw)) * (4 : Int32) = (nI (kw * 4)) from pk_mul kw 4) ?_
              refine lv_iload_n hx hb dX10_slotOf_42 rfl (lv_at hl 3 rfl) ?_
              refine lv_iadd hx hb dX10_slotOf_43 ?_
              refine x_eqi (show (nI (kw * 4)) + (nI (kd)) = (nI ((kw * 4) + kd)) from nI_add (kw * 4) kd) ?_
              refine lv_bipush (v := (20 : Int32)) hx hb dX10_slotOf_44 (by decide) ?_
              refine lv_imul hx hb dX10_slotOf_46 ?_
              refine x_eqi (show (nI ((kw * 4) + kd)) * (20 : Int32) = (nI (((kw * 4) + kd) * 20)) from pk_mul ((kw * 4) + kd) 20) ?_
              refine lv_iload_n hx hb dX10_slotOf_47 rfl (lv_at hl 1 rfl) ?_
              refine lv_iadd hx hb dX10_slotOf_48 ?_
              refine x_eqi (show (nI (((kw * 4) + kd) * 20)) + (nI (kp)) = (nI ((((kw * 4) + kd) * 20) + kp)) from nI_add (((kw * 4) + kd) * 20) kp) ?_
              refine lv_goto (tgt := 53) hx hb dX10_slotOf_49 (by decide) ?_
              exact x_iret C X hr hlk (v := (nI ((((kw * 4) + kd) * 20) + kp))) (by first | rfl | decide) ((((kw * 4) + kd) * 20) + kp) [] (by decide) rfl (Or.inr (⟨rfl, by omega⟩)) (Nat.le_of_ble_eq_true rfl) (Nat.le_of_ble_eq_true rfl) dX10_slotOf_53
set_option maxHeartbeats 4000000 in
set_option maxRecDepth 100000 in
theorem c_hasRound (l : Launch) (D : va_G) (cI cJ cZ cB : ClassId) (cO : ClassId) (w : Nat → Nat) (pl wk dy : Int32) :
    CI l D [(cI, .int), (cJ, .long), (cZ, .boolean), (cB, .byte), (cO, .object "LuckLinks$World")] yX10_hasRound cX10_hasRound 5 (some .boolean) ({ frames := 1, cells := 0, slots := 0, locals := 23 } : Room) [.ref (w 0), .int pl, .int wk, .int dy] [((w 0), .inr (10, [.int (0 : Int32), .ref (w 1), .int (0 : Int32), .ref (w 2), .ref (w 3), .int (0 : Int32), .ref (w 4), .ref (w 5), .ref (w 6), .ref (w 7), .ref (w 8), .long (1 : Int64)])), ((w 4), .inl (cI, 3200, .inl (fun _ => (-1 : Int32))))] (fun (r : Int32) (u : Unit) => (r = (0 : Int32) ∧ True)) (fun (_ : Unit) => [((w 0), .inr (10, [.int (0 : Int32), .ref (w 1), .int (0 : Int32), .ref (w 2), .ref (w 3), .int (0 : Int32), .ref (w 4), .ref (w 5), .ref (w 6), .ref (w 7), .ref (w 8), .long (1 : Int64)])), ((w 4), .inl (cI, 3200, .inl (fun _ => (-1 : Int32))))]) := by
  intro sz
  refine body_of (y := yX10_hasRound) (cc := cX10_hasRound) (maxL := 5) (ret := (some .boolean)) (rm := ({ frames := 1, cells := 0, slots := 0, locals := 23 } : Room)) (wc := [((w 0), .inr (10, [.int (0 : Int32), .ref (w 1), .int (0 : Int32), .ref (w 2), .ref (w 3), .int (0 : Int32), .ref (w 4), .ref (w 5), .ref (w 6), .ref (w 7), .ref (w 8), .long (1 : Int64)])), ((w 4), .inl (cI, 3200, .inl (fun _ => (-1 : Int32))))]) (tys := [(cI, .int), (cJ, .long), (cZ, .boolean), (cB, .byte), (cO, .object "LuckLinks$World")]) (D := D) (sz := sz) (own := RX10) (av := [.ref (w 0), .int pl, .int wk, .int dy]) (Qc := fun A => va_Qi (fun (r : Int32) (u : Unit) => (r = (0 : Int32) ∧ True)) (fun u t => Aft D A ((fun (_ : Unit) => [((w 0), .inr (10, [.int (0 : Int32), .ref (w 1), .int (0 : Int32), .ref (w 2), .ref (w 3), .int (0 : Int32), .ref (w 4), .ref (w 5), .ref (w 6), .ref (w 7), .ref (w 8), .long (1 : Int64)])), ((w 4), .inl (cI, 3200, .inl (fun _ => (-1 : Int32))))]) u) t) A) (by decide) rfl (Nat.le_of_ble_eq_true rfl) (fun p e s m below meth c A ls C hr hlk hin X hl => ?_)
  have hx := C.1
  have hb := C.2.1
  have hown := C.2.2.2.1
  have hts := C.2.2.2.2.1
  have hl : lv_has ls 5 [(0, .ref (w 0)), (1, .int pl), (2, .int wk), (3, .int dy)] := hl
  show W p l e _ s m _ below meth c s.heap [] 0 0 (MQ below (va_Qi (fun (r : Int32) (u : Unit) => (r = (0 : Int32) ∧ True)) (fun u t => Aft D A ((fun (_ : Unit) => [((w 0), .inr (10, [.int (0 : Int32), .ref (w 1), .int (0 : Int32), .ref (w 2), .ref (w 3), .int (0 : Int32), .ref (w 4), .ref (w 5), .ref (w 6), .ref (w 7), .ref (w 8), .long (1 : Int64)])), ((w 4), .inl (cI, 3200, .inl (fun _ => (-1 : Int32))))]) u) t) A) ([.ref (w 0), .int pl, .int wk, .int dy] : List Value).toArray s 0 0 A) (F0 m 0 ls [])
  have X : Wd D A s [((w 0), .inr (10, [.int (0 : Int32), .ref (w 1), .int (0 : Int32), .ref (w 2), .ref (w 3), .int (0 : Int32), .ref (w 4), .ref (w 5), .ref (w 6), .ref (w 7), .ref (w 8), .long (1 : Int64)])), ((w 4), .inl (cI, 3200, .inl (fun _ => (-1 : Int32))))] s.heap [] := X
  obtain ⟨H, locs, eH, eL⟩ : ∃ H locs, H = s.heap ∧ locs = ([] : List Loc) := ⟨_, _, rfl, rfl⟩
  rw [← eH, ← eL] at X ⊢
  clear eH eL
  refine lv_iload_n hx hb dX10_hasRound_0 rfl (lv_at hl 1 rfl) ?_
  refine lv_iload_n hx hb dX10_hasRound_1 rfl (lv_at hl 2 rfl) ?_
  refine lv_iload_n hx hb dX10_hasRound_2 rfl (lv_at hl 3 rfl) ?_
  refine x_cS (own := RX10) (wr := [((w 0), .inr (10, [.int (0 : Int32), .ref (w 1), .int (0 : Int32), .ref (w 2), .ref (w 3), .int (0 : Int32), .ref (w 4), .ref (w 5), .ref (w 6), .ref (w 7), .ref (w 8), .long (1 : Int64)])), ((w 4), .inl (cI, 3200, .inl (fun _ => (-1 : Int32))))]) (As := [.int pl, .int wk, .int dy]) C X hl.1 (c_slotOf l D cI cJ cZ cB cO pl wk dy) [] [0, 1] ⟨rfl, rfl, by decide, by decide, by decide⟩ k_15_13 k_15_14 k_1_14 k_15_15 (n := 3) (by decide +kernel) ⟨Nat.le_of_ble_eq_true rfl, Nat.le_of_ble_eq_true rfl⟩ rfl rfl (Nat.le_of_ble_eq_true rfl) dX10_hasRound_3 ⟨Nat.le_of_ble_eq_true rfl, Nat.le_of_ble_eq_true rfl⟩ (fun r_2 sl_1 H locs w_3 X => ?_)
  have X : Wd D A s [((w 0), .inr (10, [.int (0 : Int32), .ref (w 1), .int (0 : Int32), .ref (w 2), .ref (w 3), .int (0 : Int32), .ref (w 4), .ref (w 5), .ref (w 6), .ref (w 7), .ref (w 8), .long (1 : Int64)])), ((w 4), .inl (cI, 3200, .inl (fun _ => (-1 : Int32))))] H locs := X
  refine W.widen (k := 0) (n := 0) (Nat.le_of_ble_eq_true rfl) (Nat.le_of_ble_eq_true rfl) ?_
  obtain ⟨rfl, fw_3⟩ | ⟨rfl, fw_3⟩ : (r_2 = (-1 : Int32) ∧ True) ∨ (r_2 = (nI (sl_1)) ∧ sl_1 < 3200) := w_3
  · refine lv_istore (lv' := [(4, .int (-1 : Int32)), (0, .ref (w 0)), (1, .int pl), (2, .int wk), (3, .int dy)]) hx hb dX10_hasRound_6 hl (by decide) rfl (fun ls hl => ?_)
    refine lv_iload hx hb dX10_hasRound_8 (lv_at hl 0 rfl) ?_
    refine lv_iconst (v := (-1 : Int32)) hx hb dX10_hasRound_10 (by decide) ?_
    refine lv_icmp_eq (tgt := 29) hx hb dX10_hasRound_11 (by decide) (fun _ => ?_) (fun c0 => absurd (by decide) c0)
    refine lv_iconst (v := (0 : Int32)) hx hb dX10_hasRound_29 (by decide) ?_
    exact x_iret C X hr hlk (v := (0 : Int32)) (by first | rfl | decide) (()) [0, 1] (by decide) rfl (⟨rfl, trivial⟩) (Nat.le_of_ble_eq_true rfl) (Nat.le_of_ble_eq_true rfl) dX10_hasRound_30
  · refine lv_istore (lv' := [(4, .int (nI (sl_1))), (0, .ref (w 0)), (1, .int pl), (2, .int wk), (3, .int dy)]) hx hb dX10_hasRound_6 hl (by decide) rfl (fun ls hl => ?_)
    refine lv_iload hx hb dX10_hasRound_8 (lv_at hl 0 rfl) ?_
    refine lv_iconst (v := (-1 : Int32)) hx hb dX10_hasRound_10 (by decide) ?_
    refine lv_icmp_eq (tgt := 29) hx hb dX10_hasRound_11 (by decide) (fun c_4 => by exfalso; have h8 : ((sl_1 : Nat) : Int) = (-1 : Int) := (by have h9 := i_eq c_4; simp only [nI_toInt (n := sl_1) (by omega)] at h9; exact h9); omega) (fun c_4 => ?_)
    have fc_4 : ((sl_1 : Nat) : Int) ≠ (-1 : Int) := (by have h9 := i_ne c_4; simp only [nI_toInt (n := sl_1) (by omega)] at h9; exact h9)
    refine lv_aload_n hx hb dX10_hasRound_14 rfl (lv_at hl 1 rfl) ?_
    refine x_get (own := RX10) (T := TX10) C X 0 rfl rfl 6 (by decide) k_3_23 rfl rfl (v := .ref (w 4)) rfl dX10_hasRound_15 ?_
    refine lv_iload hx hb dX10_hasRound_18 (lv_at hl 0 rfl) ?_
    refine x_iald C X 1 0 rfl rfl (j := sl_1) (nI_clamp (by omega)) (vp_in_nI (by omega) (by omega)) (v := (-1 : Int32)) (rfl) dX10_hasRound_20 ?_
    refine lv_iconst (v := (-1 : Int32)) hx hb dX10_hasRound_21 (by decide) ?_
    refine lv_icmp_eq (tgt := 29) hx hb dX10_hasRound_22 (by decide) (fun _ => ?_) (fun c0 => absurd (by decide) c0)
    refine lv_iconst (v := (0 : Int32)) hx hb dX10_hasRound_29 (by decide) ?_
    exact x_iret C X hr hlk (v := (0 : Int32)) (by first | rfl | decide) (()) [0, 1] (by decide) rfl (⟨rfl, trivial⟩) (Nat.le_of_ble_eq_true rfl) (Nat.le_of_ble_eq_true rfl) dX10_hasRound_30
set_option maxHeartbeats 4000000 in
set_option maxRecDepth 100000 in
theorem c_putParts (l : Launch) (D : va_G) (cI cJ cZ cB : ClassId) (cO : ClassId) (a N : Nat) (f : Nat → Int32) (p1 p2 p3 p4 : Int32) (hN : N < 2 ^ 31) (h4 : 4 ≤ N) :
    CV l D [(cI, .int), (cJ, .long), (cZ, .boolean), (cB, .byte), (cO, .object "LuckLinks$World")] yX10_putParts cX10_putParts 7 ({ frames := 0, cells := 0, slots := 0, locals := 0 } : Room) [.ref a, .int (0 : Int32), .int p1, .int p2, .int p3, .int p4] [(a, .inl (cI, N, .inl (f)))] (fun (u : Unit) => (True)) (fun (_ : Unit) => []) := by
  intro sz
  refine body_of (y := yX10_putParts) (cc := cX10_putParts) (maxL := 7) (ret := none) (rm := ({ frames := 0, cells := 0, slots := 0, locals := 0 } : Room)) (wc := [(a, .inl (cI, N, .inl (f)))]) (tys := [(cI, .int), (cJ, .long), (cZ, .boolean), (cB, .byte), (cO, .object "LuckLinks$World")]) (D := D) (sz := sz) (own := RX10) (av := [.ref a, .int (0 : Int32), .int p1, .int p2, .int p3, .int p4]) (Qc := fun A => va_Qv (fun (u : Unit) => (True)) (fun u t => Aft D A ((fun (_ : Unit) => []) u) t) A) (by decide) rfl (Nat.le_of_ble_eq_true rfl) (fun p e s m below meth c A ls C hr hlk hin X hl => ?_)
  have hx := C.1
  have hb := C.2.1
  have hown := C.2.2.2.1
  have hts := C.2.2.2.2.1
  have hl : lv_has ls 7 [(0, .ref a), (1, .int (0 : Int32)), (2, .int p1), (3, .int p2), (4, .int p3), (5, .int p4)] := hl
  show W p l e _ s m _ below meth c s.heap [] 0 0 (MQ below (va_Qv (fun (u : Unit) => (True)) (fun u t => Aft D A ((fun (_ : Unit) => []) u) t) A) ([.ref a, .int (0 : Int32), .int p1, .int p2, .int p3, .int p4] : List Value).toArray s 0 0 A) (F0 m 0 ls [])
  have X : Wd D A s [(a, .inl (cI, N, .inl (f)))] s.heap [] := X
  obtain ⟨H, locs, eH, eL⟩ : ∃ H locs, H = s.heap ∧ locs = ([] : List Loc) := ⟨_, _, rfl, rfl⟩
  rw [← eH, ← eL] at X ⊢
  clear eH eL
  refine lv_iload_n hx hb dX10_putParts_0 rfl (lv_at hl 1 rfl) ?_
  refine lv_iconst (v := (4 : Int32)) hx hb dX10_putParts_1 (by decide) ?_
  refine lv_imul hx hb dX10_putParts_2 ?_
  refine x_eqi (show (0 : Int32) * (4 : Int32) = (0 : Int32) from by decide +kernel) ?_
  refine lv_istore (lv' := [(6, .int (0 : Int32)), (0, .ref a), (1, .int (0 : Int32)), (2, .int p1), (3, .int p2), (4, .int p3), (5, .int p4)]) hx hb dX10_putParts_3 hl (by decide) rfl (fun ls hl => ?_)
  refine lv_iload hx hb dX10_putParts_5 (lv_at hl 0 rfl) ?_
  refine lv_if_lt (tgt := 47) hx hb dX10_putParts_7 (by decide) (fun c0 => absurd c0 (by decide)) (fun _ => ?_)
  refine lv_iload hx hb dX10_putParts_10 (lv_at hl 0 rfl) ?_
  refine lv_iconst (v := (3 : Int32)) hx hb dX10_putParts_12 (by decide) ?_
  refine lv_iadd hx hb dX10_putParts_13 ?_
  refine x_eqi (show (0 : Int32) + (3 : Int32) = (3 : Int32) from by decide +kernel) ?_
  refine lv_aload_n hx hb dX10_putParts_14 rfl (lv_at hl 1 rfl) ?_
  refine x_alen C X 0 0 rfl rfl (v := (nI (N))) (rfl) dX10_putParts_15 ?_
  refine lv_icmp_ge (tgt := 47) hx hb dX10_putParts_16 (by decide) (fun c_1 => by exfalso; have h8 : ((N : Nat) : Int) ≤ (3 : Int) := (by have h9 := i_le c_1; simp only [nI_toInt (n := N) (by omega)] at h9; exact h9); omega) (fun c_1 => ?_)
  have fc_1 : (3 : Int) < ((N : Nat) : Int) := (by have h9 := i_nle c_1; simp only [nI_toInt (n := N) (by omega)] at h9; exact h9)
  refine lv_aload_n hx hb dX10_putParts_19 rfl (lv_at hl 1 rfl) ?_
  refine lv_iload hx hb dX10_putParts_20 (lv_at hl 0 rfl) ?_
  refine lv_iload_n hx hb dX10_putParts_22 rfl (lv_at hl 3 rfl) ?_
  refine x_iast C X 0 0 rfl rfl (j := 0) rfl (vp_in_nI (n := 0) (by omega) (by omega)) dX10_putParts_23 (fun H locs X => ?_)
  have X : Wd D A s [(a, .inl (cI, N, .inl (upd (f) (0) (p1))))] H locs := X
  refine lv_aload_n hx hb dX10_putParts_24 rfl (lv_at hl 1 rfl) ?_
  refine lv_iload hx hb dX10_putParts_25 (lv_at hl 0 rfl) ?_
  refine lv_iconst (v := (1 : Int32)) hx hb dX10_putParts_27 (by decide) ?_
  refine lv_iadd hx hb dX10_putParts_28 ?_
  refine x_eqi (show (0 : Int32) + (1 : Int32) = (1 : Int32) from by decide +kernel) ?_
  refine lv_iload_n hx hb dX10_putParts_29 rfl (lv_at hl 4 rfl) ?_
  refine x_iast C X 0 0 rfl rfl (j := 1) rfl (vp_in_nI (n := 1) (by omega) (by omega)) dX10_putParts_30 (fun H locs X => ?_)
  have X : Wd D A s [(a, .inl (cI, N, .inl (upd (upd (f) (0) (p1)) (1) (p2))))] H locs := X
  refine lv_aload_n hx hb dX10_putParts_31 rfl (lv_at hl 1 rfl) ?_
  refine lv_iload hx hb dX10_putParts_32 (lv_at hl 0 rfl) ?_
  refine lv_iconst (v := (2 : Int32)) hx hb dX10_putParts_34 (by decide) ?_
  refine lv_iadd hx hb dX10_putParts_35 ?_
  refine x_eqi (show (0 : Int32) + (2 : Int32) = (2 : Int32) from by decide +kernel) ?_
  refine lv_iload hx hb dX10_putParts_36 (lv_at hl 5 rfl) ?_
  refine x_iast C X 0 0 rfl rfl (j := 2) rfl (vp_in_nI (n := 2) (by omega) (by omega)) dX10_putParts_38 (fun H locs X => ?_)
  have X : Wd D A s [(a, .inl (cI, N, .inl (upd (upd (upd (f) (0) (p1)) (1) (p2)) (2) (p3))))] H locs := X
  refine lv_aload_n hx hb dX10_putParts_39 rfl (lv_at hl 1 rfl) ?_
  refine lv_iload hx hb dX10_putParts_40 (lv_at hl 0 rfl) ?_
  refine lv_iconst (v := (3 : Int32)) hx hb dX10_putParts_42 (by decide) ?_
  refine lv_iadd hx hb dX10_putParts_43 ?_
  refine x_eqi (show (0 : Int32) + (3 : Int32) = (3 : Int32) from by decide +kernel) ?_
  refine lv_iload hx hb dX10_putParts_44 (lv_at hl 6 rfl) ?_
  refine x_iast C X 0 0 rfl rfl (j := 3) rfl (vp_in_nI (n := 3) (by omega) (by omega)) dX10_putParts_46 (fun H locs X => ?_)
  have X : Wd D A s [(a, .inl (cI, N, .inl (upd (upd (upd (upd (f) (0) (p1)) (1) (p2)) (2) (p3)) (3) (p4))))] H locs := X
  exact x_vret C X hr hlk (()) [] (by decide) rfl (trivial) (Nat.le_of_ble_eq_true rfl) (Nat.le_of_ble_eq_true rfl) dX10_putParts_47
set_option maxHeartbeats 4000000 in
set_option maxRecDepth 100000 in
theorem c_addPlayer (l : Launch) (D : va_G) (cI cJ cZ cB : ClassId) (cO : ClassId) (w : Nat → Nat) (p1 p2 p3 p4 : Int32) :
    CI l D [(cI, .int), (cJ, .long), (cZ, .boolean), (cB, .byte), (cO, .object "LuckLinks$World")] yX10_addPlayer cX10_addPlayer 5 (some .int) ({ frames := 1, cells := 0, slots := 0, locals := 26 } : Room) [.ref (w 0), .int p1, .int p2, .int p3, .int p4] [((w 0), .inr (10, [.int (0 : Int32), .ref (w 1), .int (0 : Int32), .ref (w 2), .ref (w 3), .int (0 : Int32), .ref (w 4), .ref (w 5), .ref (w 6), .ref (w 7), .ref (w 8), .long (1 : Int64)])), ((w 1), .inl (cI, 80, .inl (fun _ => (0 : Int32))))] (fun (r : Int32) (u : Unit) => (r = (0 : Int32) ∧ True)) (fun (_ : Unit) => []) := by
  intro sz
  refine body_of (y := yX10_addPlayer) (cc := cX10_addPlayer) (maxL := 5) (ret := (some .int)) (rm := ({ frames := 1, cells := 0, slots := 0, locals := 26 } : Room)) (wc := [((w 0), .inr (10, [.int (0 : Int32), .ref (w 1), .int (0 : Int32), .ref (w 2), .ref (w 3), .int (0 : Int32), .ref (w 4), .ref (w 5), .ref (w 6), .ref (w 7), .ref (w 8), .long (1 : Int64)])), ((w 1), .inl (cI, 80, .inl (fun _ => (0 : Int32))))]) (tys := [(cI, .int), (cJ, .long), (cZ, .boolean), (cB, .byte), (cO, .object "LuckLinks$World")]) (D := D) (sz := sz) (own := RX10) (av := [.ref (w 0), .int p1, .int p2, .int p3, .int p4]) (Qc := fun A => va_Qi (fun (r : Int32) (u : Unit) => (r = (0 : Int32) ∧ True)) (fun u t => Aft D A ((fun (_ : Unit) => []) u) t) A) (by decide) rfl (Nat.le_of_ble_eq_true rfl) (fun p e s m below meth c A ls C hr hlk hin X hl => ?_)
  have hx := C.1
  have hb := C.2.1
  have hown := C.2.2.2.1
  have hts := C.2.2.2.2.1
  have hl : lv_has ls 5 [(0, .ref (w 0)), (1, .int p1), (2, .int p2), (3, .int p3), (4, .int p4)] := hl
  show W p l e _ s m _ below meth c s.heap [] 0 0 (MQ below (va_Qi (fun (r : Int32) (u : Unit) => (r = (0 : Int32) ∧ True)) (fun u t => Aft D A ((fun (_ : Unit) => []) u) t) A) ([.ref (w 0), .int p1, .int p2, .int p3, .int p4] : List Value).toArray s 0 0 A) (F0 m 0 ls [])
  have X : Wd D A s [((w 0), .inr (10, [.int (0 : Int32), .ref (w 1), .int (0 : Int32), .ref (w 2), .ref (w 3), .int (0 : Int32), .ref (w 4), .ref (w 5), .ref (w 6), .ref (w 7), .ref (w 8), .long (1 : Int64)])), ((w 1), .inl (cI, 80, .inl (fun _ => (0 : Int32))))] s.heap [] := X
  obtain ⟨H, locs, eH, eL⟩ : ∃ H locs, H = s.heap ∧ locs = ([] : List Loc) := ⟨_, _, rfl, rfl⟩
  rw [← eH, ← eL] at X ⊢
  clear eH eL
  refine lv_aload_n hx hb dX10_addPlayer_0 rfl (lv_at hl 0 rfl) ?_
  refine x_get (own := RX10) (T := TX10) C X 0 rfl rfl 1 (by decide) k_3_18 rfl rfl (v := .ref (w 1)) rfl dX10_addPlayer_1 ?_
  refine lv_aload_n hx hb dX10_addPlayer_4 rfl (lv_at hl 0 rfl) ?_
  refine x_get (own := RX10) (T := TX10) C X 0 rfl rfl 0 (by decide) k_3_17 rfl rfl (v := .int (0 : Int32)) rfl dX10_addPlayer_5 ?_
  refine lv_iload_n hx hb dX10_addPlayer_8 rfl (lv_at hl 1 rfl) ?_
  refine lv_iload_n hx hb dX10_addPlayer_9 rfl (lv_at hl 2 rfl) ?_
  refine lv_iload_n hx hb dX10_addPlayer_10 rfl (lv_at hl 3 rfl) ?_
  refine lv_iload hx hb dX10_addPlayer_11 (lv_at hl 4 rfl) ?_
  refine x_cSv (own := RX10) (wr := [((w 0), .inr (10, [.int (0 : Int32), .ref (w 1), .int (0 : Int32), .ref (w 2), .ref (w 3), .int (0 : Int32), .ref (w 4), .ref (w 5), .ref (w 6), .ref (w 7), .ref (w 8), .long (1 : Int64)]))]) (As := [.ref (w 1), .int (0 : Int32), .int p1, .int p2, .int p3, .int p4]) C X hl.1 (c_putParts l D cI cJ cZ cB cO (w 1) 80 (fun _ => (0 : Int32)) p1 p2 p3 p4 (by omega) (by omega)) [1] [0] ⟨rfl, rfl, by decide, by decide, by decide⟩ k_12_16 k_12_17 k_1_14 k_12_18 (n := 6) (by decide +kernel) ⟨Nat.le_of_ble_eq_true rfl, Nat.le_of_ble_eq_true rfl⟩ rfl rfl (Nat.le_of_ble_eq_true rfl) dX10_addPlayer_13 ⟨Nat.le_of_ble_eq_true rfl, Nat.le_of_ble_eq_true rfl⟩ (fun u_1 H locs w_3 X => ?_)
  have X : Wd D A s [((w 0), .inr (10, [.int (0 : Int32), .ref (w 1), .int (0 : Int32), .ref (w 2), .ref (w 3), .int (0 : Int32), .ref (w 4), .ref (w 5), .ref (w 6), .ref (w 7), .ref (w 8), .long (1 : Int64)]))] H locs := X
  refine W.widen (k := 0) (n := 0) (Nat.le_of_ble_eq_true rfl) (Nat.le_of_ble_eq_true rfl) ?_
  refine lv_aload_n hx hb dX10_addPlayer_16 rfl (lv_at hl 0 rfl) ?_
  refine lv_dup hx hb dX10_addPlayer_17 rfl ?_
  refine x_get (own := RX10) (T := TX10) C X 0 rfl rfl 0 (by decide) k_3_17 rfl rfl (v := .int (0 : Int32)) rfl dX10_addPlayer_18 ?_
  refine lv_iconst (v := (1 : Int32)) hx hb dX10_addPlayer_21 (by decide) ?_
  refine lv_iadd hx hb dX10_addPlayer_22 ?_
  refine x_eqi (show (0 : Int32) + (1 : Int32) = (1 : Int32) from by decide +kernel) ?_
  refine x_put (own := RX10) (T := TX10) C X 0 rfl rfl 0 (by decide) k_3_17 rfl rfl rfl (ty := .int) (v := .int (1 : Int32)) (by decide +kernel) rfl rfl (Nat.le_of_ble_eq_true rfl) dX10_addPlayer_23 (fun H locs X => ?_)
  have X : Wd D A s [((w 0), .inr (10, [.int (1 : Int32), .ref (w 1), .int (0 : Int32), .ref (w 2), .ref (w 3), .int (0 : Int32), .ref (w 4), .ref (w 5), .ref (w 6), .ref (w 7), .ref (w 8), .long (1 : Int64)]))] H locs := X
  refine lv_aload_n hx hb dX10_addPlayer_26 rfl (lv_at hl 0 rfl) ?_
  refine x_get (own := RX10) (T := TX10) C X 0 rfl rfl 0 (by decide) k_3_17 rfl rfl (v := .int (1 : Int32)) rfl dX10_addPlayer_27 ?_
  refine lv_iconst (v := (1 : Int32)) hx hb dX10_addPlayer_30 (by decide) ?_
  refine lv_isub hx hb dX10_addPlayer_31 ?_
  refine x_eqi (show (1 : Int32) - (1 : Int32) = (0 : Int32) from by decide +kernel) ?_
  exact x_iret C X hr hlk (v := (0 : Int32)) (by first | rfl | decide) (()) [] (by decide) rfl (⟨rfl, trivial⟩) (Nat.le_of_ble_eq_true rfl) (Nat.le_of_ble_eq_true rfl) dX10_addPlayer_32
set_option maxHeartbeats 4000000 in
set_option maxRecDepth 100000 in
theorem c_addCourse (l : Launch) (D : va_G) (cI cJ cZ cB : ClassId) (cO : ClassId) (w : Nat → Nat) (p1 p2 p3 p4 : Int32) :
    CI l D [(cI, .int), (cJ, .long), (cZ, .boolean), (cB, .byte), (cO, .object "LuckLinks$World")] yX10_addCourse cX10_addCourse 5 (some .int) ({ frames := 1, cells := 0, slots := 0, locals := 26 } : Room) [.ref (w 0), .int p1, .int p2, .int p3, .int p4] [((w 0), .inr (10, [.int (0 : Int32), .ref (w 1), .int (0 : Int32), .ref (w 2), .ref (w 3), .int (0 : Int32), .ref (w 4), .ref (w 5), .ref (w 6), .ref (w 7), .ref (w 8), .long (1 : Int64)])), ((w 2), .inl (cI, 24, .inl (fun _ => (0 : Int32))))] (fun (r : Int32) (u : Unit) => (r = (0 : Int32) ∧ True)) (fun (_ : Unit) => []) := by
  intro sz
  refine body_of (y := yX10_addCourse) (cc := cX10_addCourse) (maxL := 5) (ret := (some .int)) (rm := ({ frames := 1, cells := 0, slots := 0, locals := 26 } : Room)) (wc := [((w 0), .inr (10, [.int (0 : Int32), .ref (w 1), .int (0 : Int32), .ref (w 2), .ref (w 3), .int (0 : Int32), .ref (w 4), .ref (w 5), .ref (w 6), .ref (w 7), .ref (w 8), .long (1 : Int64)])), ((w 2), .inl (cI, 24, .inl (fun _ => (0 : Int32))))]) (tys := [(cI, .int), (cJ, .long), (cZ, .boolean), (cB, .byte), (cO, .object "LuckLinks$World")]) (D := D) (sz := sz) (own := RX10) (av := [.ref (w 0), .int p1, .int p2, .int p3, .int p4]) (Qc := fun A => va_Qi (fun (r : Int32) (u : Unit) => (r = (0 : Int32) ∧ True)) (fun u t => Aft D A ((fun (_ : Unit) => []) u) t) A) (by decide) rfl (Nat.le_of_ble_eq_true rfl) (fun p e s m below meth c A ls C hr hlk hin X hl => ?_)
  have hx := C.1
  have hb := C.2.1
  have hown := C.2.2.2.1
  have hts := C.2.2.2.2.1
  have hl : lv_has ls 5 [(0, .ref (w 0)), (1, .int p1), (2, .int p2), (3, .int p3), (4, .int p4)] := hl
  show W p l e _ s m _ below meth c s.heap [] 0 0 (MQ below (va_Qi (fun (r : Int32) (u : Unit) => (r = (0 : Int32) ∧ True)) (fun u t => Aft D A ((fun (_ : Unit) => []) u) t) A) ([.ref (w 0), .int p1, .int p2, .int p3, .int p4] : List Value).toArray s 0 0 A) (F0 m 0 ls [])
  have X : Wd D A s [((w 0), .inr (10, [.int (0 : Int32), .ref (w 1), .int (0 : Int32), .ref (w 2), .ref (w 3), .int (0 : Int32), .ref (w 4), .ref (w 5), .ref (w 6), .ref (w 7), .ref (w 8), .long (1 : Int64)])), ((w 2), .inl (cI, 24, .inl (fun _ => (0 : Int32))))] s.heap [] := X
  obtain ⟨H, locs, eH, eL⟩ : ∃ H locs, H = s.heap ∧ locs = ([] : List Loc) := ⟨_, _, rfl, rfl⟩
  rw [← eH, ← eL] at X ⊢
  clear eH eL
  refine lv_aload_n hx hb dX10_addCourse_0 rfl (lv_at hl 0 rfl) ?_
  refine x_get (own := RX10) (T := TX10) C X 0 rfl rfl 3 (by decide) k_3_20 rfl rfl (v := .ref (w 2)) rfl dX10_addCourse_1 ?_
  refine lv_aload_n hx hb dX10_addCourse_4 rfl (lv_at hl 0 rfl) ?_
  refine x_get (own := RX10) (T := TX10) C X 0 rfl rfl 2 (by decide) k_3_19 rfl rfl (v := .int (0 : Int32)) rfl dX10_addCourse_5 ?_
  refine lv_iload_n hx hb dX10_addCourse_8 rfl (lv_at hl 1 rfl) ?_
  refine lv_iload_n hx hb dX10_addCourse_9 rfl (lv_at hl 2 rfl) ?_
  refine lv_iload_n hx hb dX10_addCourse_10 rfl (lv_at hl 3 rfl) ?_
  refine lv_iload hx hb dX10_addCourse_11 (lv_at hl 4 rfl) ?_
  refine x_cSv (own := RX10) (wr := [((w 0), .inr (10, [.int (0 : Int32), .ref (w 1), .int (0 : Int32), .ref (w 2), .ref (w 3), .int (0 : Int32), .ref (w 4), .ref (w 5), .ref (w 6), .ref (w 7), .ref (w 8), .long (1 : Int64)]))]) (As := [.ref (w 2), .int (0 : Int32), .int p1, .int p2, .int p3, .int p4]) C X hl.1 (c_putParts l D cI cJ cZ cB cO (w 2) 24 (fun _ => (0 : Int32)) p1 p2 p3 p4 (by omega) (by omega)) [1] [0] ⟨rfl, rfl, by decide, by decide, by decide⟩ k_12_16 k_12_17 k_1_14 k_12_18 (n := 6) (by decide +kernel) ⟨Nat.le_of_ble_eq_true rfl, Nat.le_of_ble_eq_true rfl⟩ rfl rfl (Nat.le_of_ble_eq_true rfl) dX10_addCourse_13 ⟨Nat.le_of_ble_eq_true rfl, Nat.le_of_ble_eq_true rfl⟩ (fun u_1 H locs w_3 X => ?_)
  have X : Wd D A s [((w 0), .inr (10, [.int (0 : Int32), .ref (w 1), .int (0 : Int32), .ref (w 2), .ref (w 3), .int (0 : Int32), .ref (w 4), .ref (w 5), .ref (w 6), .ref (w 7), .ref (w 8), .long (1 : Int64)]))] H locs := X
  refine W.widen (k := 0) (n := 0) (Nat.le_of_ble_eq_true rfl) (Nat.le_of_ble_eq_true rfl) ?_
  refine lv_aload_n hx hb dX10_addCourse_16 rfl (lv_at hl 0 rfl) ?_
  refine lv_dup hx hb dX10_addCourse_17 rfl ?_
  refine x_get (own := RX10) (T := TX10) C X 0 rfl rfl 2 (by decide) k_3_19 rfl rfl (v := .int (0 : Int32)) rfl dX10_addCourse_18 ?_
  refine lv_iconst (v := (1 : Int32)) hx hb dX10_addCourse_21 (by decide) ?_
  refine lv_iadd hx hb dX10_addCourse_22 ?_
  refine x_eqi (show (0 : Int32) + (1 : Int32) = (1 : Int32) from by decide +kernel) ?_
  refine x_put (own := RX10) (T := TX10) C X 0 rfl rfl 2 (by decide) k_3_19 rfl rfl rfl (ty := .int) (v := .int (1 : Int32)) (by decide +kernel) rfl rfl (Nat.le_of_ble_eq_true rfl) dX10_addCourse_23 (fun H locs X => ?_)
  have X : Wd D A s [((w 0), .inr (10, [.int (0 : Int32), .ref (w 1), .int (1 : Int32), .ref (w 2), .ref (w 3), .int (0 : Int32), .ref (w 4), .ref (w 5), .ref (w 6), .ref (w 7), .ref (w 8), .long (1 : Int64)]))] H locs := X
  refine lv_aload_n hx hb dX10_addCourse_26 rfl (lv_at hl 0 rfl) ?_
  refine x_get (own := RX10) (T := TX10) C X 0 rfl rfl 2 (by decide) k_3_19 rfl rfl (v := .int (1 : Int32)) rfl dX10_addCourse_27 ?_
  refine lv_iconst (v := (1 : Int32)) hx hb dX10_addCourse_30 (by decide) ?_
  refine lv_isub hx hb dX10_addCourse_31 ?_
  refine x_eqi (show (1 : Int32) - (1 : Int32) = (0 : Int32) from by decide +kernel) ?_
  exact x_iret C X hr hlk (v := (0 : Int32)) (by first | rfl | decide) (()) [] (by decide) rfl (⟨rfl, trivial⟩) (Nat.le_of_ble_eq_true rfl) (Nat.le_of_ble_eq_true rfl) dX10_addCourse_32
