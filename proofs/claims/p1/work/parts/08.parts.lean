theorem k_15_10 : Cond.instanceMethod yX10_hasRound ∈ wsL_law := mr_15 _ (List.mem_of_getElem? (i := 10) rfl)
theorem k_15_11 : Cond.selects RX10 yX10_hasRound yX10_hasRound ∈ wsL_law := mr_15 _ (List.mem_of_getElem? (i := 11) rfl)
theorem k_15_12 : Cond.code yX10_hasRound cX10_hasRound 5 (some .boolean) ∈ wsL_law := mr_15 _ (List.mem_of_getElem? (i := 12) rfl)
theorem k_31_11 : Cond.instanceMethod yX10_roundsOn ∈ wsL_law := mr_31 _ (List.mem_of_getElem? (i := 11) rfl)
theorem k_31_12 : Cond.selects RX10 yX10_roundsOn yX10_roundsOn ∈ wsL_law := mr_31 _ (List.mem_of_getElem? (i := 12) rfl)
theorem k_31_13 : Cond.code yX10_roundsOn cX10_roundsOn 4 (some .int) ∈ wsL_law := mr_31 _ (List.mem_of_getElem? (i := 13) rfl)
theorem k_33_13 : Cond.instanceMethod yX5_clear ∈ wsL_law := mr_33 _ (List.mem_of_getElem? (i := 13) rfl)
theorem k_33_14 : Cond.selects RX5 yX5_clear yX5_clear ∈ wsL_law := mr_33 _ (List.mem_of_getElem? (i := 14) rfl)
theorem k_33_15 : Cond.code yX5_clear cX5_clear 1 none ∈ wsL_law := mr_33 _ (List.mem_of_getElem? (i := 15) rfl)
theorem k_34_1 : Cond.instanceMethod yX5_size ∈ wsL_law := mr_34 _ (List.mem_of_getElem? (i := 1) rfl)
theorem k_34_2 : Cond.selects RX5 yX5_size yX5_size ∈ wsL_law := mr_34 _ (List.mem_of_getElem? (i := 2) rfl)
theorem k_34_3 : Cond.code yX5_size cX5_size 1 (some .int) ∈ wsL_law := mr_34 _ (List.mem_of_getElem? (i := 3) rfl)
theorem k_39_13 : Cond.methodLink RX7 51 yX7_lastDayOf ∈ wsL_law := mr_39 _ (List.mem_of_getElem? (i := 13) rfl)
theorem k_39_14 : Cond.instanceMethod yX7_lastDayOf ∈ wsL_law := mr_39 _ (List.mem_of_getElem? (i := 14) rfl)
theorem k_39_15 : Cond.selects RX7 yX7_lastDayOf yX7_lastDayOf ∈ wsL_law := mr_39 _ (List.mem_of_getElem? (i := 15) rfl)
theorem k_39_16 : Cond.code yX7_lastDayOf cX7_lastDayOf 4 (some .int) ∈ wsL_law := mr_39 _ (List.mem_of_getElem? (i := 16) rfl)
theorem k_39_17 : Cond.methodLink RX7 26 yX10_roundsOn ∈ wsL_law := mr_39 _ (List.mem_of_getElem? (i := 17) rfl)
theorem k_39_19 : Cond.methodLink RX7 55 yX7_rankBySums ∈ wsL_law := mr_39 _ (List.mem_of_getElem? (i := 19) rfl)
theorem k_39_20 : Cond.instanceMethod yX7_rankBySums ∈ wsL_law := mr_39 _ (List.mem_of_getElem? (i := 20) rfl)
theorem k_39_21 : Cond.selects RX7 yX7_rankBySums yX7_rankBySums ∈ wsL_law := mr_39 _ (List.mem_of_getElem? (i := 21) rfl)
theorem k_39_22 : Cond.code yX7_rankBySums cX7_rankBySums 4 none ∈ wsL_law := mr_39 _ (List.mem_of_getElem? (i := 22) rfl)
theorem k_39_23 : Cond.fieldLink RX7 35 "LuckLinks$World" "players" "I" ∈ wsL_law := mr_39 _ (List.mem_of_getElem? (i := 23) rfl)
theorem k_40_0 : Cond.methodLink RX7 32 yX5_clear ∈ wsL_law := mr_40 _ (List.mem_of_getElem? (i := 0) rfl)
theorem k_41_10 : Cond.methodLink RX7 67 yX7_addShares ∈ wsL_law := mr_41 _ (List.mem_of_getElem? (i := 10) rfl)
theorem k_41_11 : Cond.instanceMethod yX7_addShares ∈ wsL_law := mr_41 _ (List.mem_of_getElem? (i := 11) rfl)
theorem k_41_12 : Cond.selects RX7 yX7_addShares yX7_addShares ∈ wsL_law := mr_41 _ (List.mem_of_getElem? (i := 12) rfl)
theorem k_41_13 : Cond.code yX7_addShares cX7_addShares 9 none ∈ wsL_law := mr_41 _ (List.mem_of_getElem? (i := 13) rfl)
theorem k_41_14 : Cond.methodLink RX7 71 yX5_size ∈ wsL_law := mr_41 _ (List.mem_of_getElem? (i := 14) rfl)
theorem k_41_9 : Cond.methodLink RX7 61 yJ7_fill_53178 ∈ wsL_law := mr_41 _ (List.mem_of_getElem? (i := 9) rfl)
theorem k_43_20 : Cond.constantLong RX8 79 (2) ∈ wsL_law := mr_43 _ (List.mem_of_getElem? (i := 20) rfl)
theorem k_43_21 : Cond.methodLink RX8 47 yX8_addCouplesOfDay ∈ wsL_law := mr_43 _ (List.mem_of_getElem? (i := 21) rfl)
theorem k_43_22 : Cond.instanceMethod yX8_addCouplesOfDay ∈ wsL_law := mr_43 _ (List.mem_of_getElem? (i := 22) rfl)
theorem k_43_23 : Cond.selects RX8 yX8_addCouplesOfDay yX8_addCouplesOfDay ∈ wsL_law := mr_43 _ (List.mem_of_getElem? (i := 23) rfl)
theorem k_43_9 : Cond.fieldLink RX8 38 "LuckLinks$World" "players" "I" ∈ wsL_law := mr_43 _ (List.mem_of_getElem? (i := 9) rfl)
theorem k_44_0 : Cond.code yX8_addCouplesOfDay cX8_addCouplesOfDay 9 none ∈ wsL_law := mr_44 _ (List.mem_of_getElem? (i := 0) rfl)
theorem k_44_1 : Cond.methodLink RX8 71 yX10_roundsOn ∈ wsL_law := mr_44 _ (List.mem_of_getElem? (i := 1) rfl)
theorem k_44_10 : Cond.methodLink RX8 55 yX6_set ∈ wsL_law := mr_44 _ (List.mem_of_getElem? (i := 10) rfl)
theorem k_44_11 : Cond.instanceMethod yX6_set ∈ wsL_law := mr_44 _ (List.mem_of_getElem? (i := 11) rfl)
theorem k_44_12 : Cond.selects RX6 yX6_set yX6_set ∈ wsL_law := mr_44 _ (List.mem_of_getElem? (i := 12) rfl)
theorem k_44_13 : Cond.code yX6_set cX6_set 7 none ∈ wsL_law := mr_44 _ (List.mem_of_getElem? (i := 13) rfl)
theorem k_44_20 : Cond.methodLink RX6 26 yX6_setNone ∈ wsL_law := mr_44 _ (List.mem_of_getElem? (i := 20) rfl)
theorem k_44_6 : Cond.methodLink RX8 50 yX6_setNone ∈ wsL_law := mr_44 _ (List.mem_of_getElem? (i := 6) rfl)
theorem k_44_7 : Cond.instanceMethod yX6_setNone ∈ wsL_law := mr_44 _ (List.mem_of_getElem? (i := 7) rfl)
theorem k_44_8 : Cond.selects RX6 yX6_setNone yX6_setNone ∈ wsL_law := mr_44 _ (List.mem_of_getElem? (i := 8) rfl)
theorem k_44_9 : Cond.code yX6_setNone cX6_setNone 1 none ∈ wsL_law := mr_44 _ (List.mem_of_getElem? (i := 9) rfl)
theorem k_50_10 : Cond.fieldLink RX1 40 "LuckLinks$World" "players" "I" ∈ wsL_law := mr_50 _ (List.mem_of_getElem? (i := 10) rfl)
theorem k_55_14 : Cond.instanceMethod yX2_compareHalves ∈ wsL_law := mr_55 _ (List.mem_of_getElem? (i := 14) rfl)
theorem k_55_15 : Cond.selects RX2 yX2_compareHalves yX2_compareHalves ∈ wsL_law := mr_55 _ (List.mem_of_getElem? (i := 15) rfl)
theorem k_55_16 : Cond.code yX2_compareHalves cX2_compareHalves 6 none ∈ wsL_law := mr_55 _ (List.mem_of_getElem? (i := 16) rfl)
theorem k_55_17 : Cond.methodLink RX2 38 yX2_gatherHalf ∈ wsL_law := mr_55 _ (List.mem_of_getElem? (i := 17) rfl)
theorem k_55_18 : Cond.instanceMethod yX2_gatherHalf ∈ wsL_law := mr_55 _ (List.mem_of_getElem? (i := 18) rfl)
theorem k_55_19 : Cond.selects RX2 yX2_gatherHalf yX2_gatherHalf ∈ wsL_law := mr_55 _ (List.mem_of_getElem? (i := 19) rfl)
theorem k_55_20 : Cond.code yX2_gatherHalf cX2_gatherHalf 9 none ∈ wsL_law := mr_55 _ (List.mem_of_getElem? (i := 20) rfl)
theorem k_55_21 : Cond.methodLink RX2 50 yX10_hasRound ∈ wsL_law := mr_55 _ (List.mem_of_getElem? (i := 21) rfl)
theorem k_55_23 : Cond.methodLink RX2 42 yX2_isInBoth ∈ wsL_law := mr_55 _ (List.mem_of_getElem? (i := 23) rfl)
theorem k_56_0 : Cond.instanceMethod yX2_isInBoth ∈ wsL_law := mr_56 _ (List.mem_of_getElem? (i := 0) rfl)
theorem k_56_1 : Cond.selects RX2 yX2_isInBoth yX2_isInBoth ∈ wsL_law := mr_56 _ (List.mem_of_getElem? (i := 1) rfl)
theorem k_56_2 : Cond.code yX2_isInBoth cX2_isInBoth 2 (some .boolean) ∈ wsL_law := mr_56 _ (List.mem_of_getElem? (i := 2) rfl)
theorem k_57_17 : Cond.methodLink RX2 70 yX2_compareHalves ∈ wsL_law := mr_57 _ (List.mem_of_getElem? (i := 17) rfl)
theorem k_58_20 : Cond.methodLink RX7 93 yX7_rankByGains ∈ wsL_law := mr_58 _ (List.mem_of_getElem? (i := 20) rfl)
theorem k_58_21 : Cond.instanceMethod yX7_rankByGains ∈ wsL_law := mr_58 _ (List.mem_of_getElem? (i := 21) rfl)
theorem k_58_22 : Cond.selects RX7 yX7_rankByGains yX7_rankByGains ∈ wsL_law := mr_58 _ (List.mem_of_getElem? (i := 22) rfl)
theorem k_58_23 : Cond.code yX7_rankByGains cX7_rankByGains 6 none ∈ wsL_law := mr_58 _ (List.mem_of_getElem? (i := 23) rfl)
theorem dX1_bestAhead_0 : decode cX1_bestAhead 0 = .ok (.iconst (-1), 1) := by decide +kernel
theorem dX1_bestAhead_1 : decode cX1_bestAhead 1 = .ok (.istore_n 3, 1) := by decide +kernel
theorem dX1_bestAhead_2 : decode cX1_bestAhead 2 = .ok (.lconst 0, 1) := by decide +kernel
theorem dX1_bestAhead_3 : decode cX1_bestAhead 3 = .ok (.lstore 4, 2) := by decide +kernel
theorem dX1_bestAhead_5 : decode cX1_bestAhead 5 = .ok (.lconst 0, 1) := by decide +kernel
theorem dX1_bestAhead_6 : decode cX1_bestAhead 6 = .ok (.lstore 6, 2) := by decide +kernel
theorem dX1_bestAhead_8 : decode cX1_bestAhead 8 = .ok (.iconst 0, 1) := by decide +kernel
theorem dX1_bestAhead_9 : decode cX1_bestAhead 9 = .ok (.istore 8, 2) := by decide +kernel
theorem dX1_bestAhead_11 : decode cX1_bestAhead 11 = .ok (.iload 8, 2) := by decide +kernel
theorem dX1_bestAhead_13 : decode cX1_bestAhead 13 = .ok (.aload_n 0, 1) := by decide +kernel
theorem dX1_bestAhead_14 : decode cX1_bestAhead 14 = .ok (.getfield 26, 3) := by decide +kernel
theorem dX1_bestAhead_17 : decode cX1_bestAhead 17 = .ok (.getfield 40, 3) := by decide +kernel
theorem dX1_bestAhead_20 : decode cX1_bestAhead 20 = .ok (.if_icmp .ge 76, 3) := by decide +kernel
theorem dX1_bestAhead_96 : decode cX1_bestAhead 96 = .ok (.iload_n 3, 1) := by decide +kernel
theorem dX1_bestAhead_97 : decode cX1_bestAhead 97 = .ok (.ireturn, 1) := by decide +kernel
theorem dX1_gatherAll_0 : decode cX1_gatherAll 0 = .ok (.iconst 0, 1) := by decide +kernel
theorem dX1_gatherAll_1 : decode cX1_gatherAll 1 = .ok (.istore_n 1, 1) := by decide +kernel
theorem dX1_gatherAll_2 : decode cX1_gatherAll 2 = .ok (.iload_n 1, 1) := by decide +kernel
theorem dX1_gatherAll_3 : decode cX1_gatherAll 3 = .ok (.aload_n 0, 1) := by decide +kernel
theorem dX1_gatherAll_4 : decode cX1_gatherAll 4 = .ok (.getfield 26, 3) := by decide +kernel
theorem dX1_gatherAll_7 : decode cX1_gatherAll 7 = .ok (.getfield 40, 3) := by decide +kernel
theorem dX1_gatherAll_10 : decode cX1_gatherAll 10 = .ok (.if_icmp .ge 15, 3) := by decide +kernel
theorem dX1_gatherAll_25 : decode cX1_gatherAll 25 = .ok (.return_, 1) := by decide +kernel
theorem dX1_missed_0 : decode cX1_missed 0 = .ok (.iconst 0, 1) := by decide +kernel
theorem dX1_missed_1 : decode cX1_missed 1 = .ok (.istore 4, 2) := by decide +kernel
theorem dX1_missed_3 : decode cX1_missed 3 = .ok (.iconst 0, 1) := by decide +kernel
theorem dX1_missed_4 : decode cX1_missed 4 = .ok (.istore 5, 2) := by decide +kernel
theorem dX1_missed_6 : decode cX1_missed 6 = .ok (.iload 5, 2) := by decide +kernel
theorem dX1_missed_8 : decode cX1_missed 8 = .ok (.aload_n 0, 1) := by decide +kernel
theorem dX1_missed_9 : decode cX1_missed 9 = .ok (.getfield 26, 3) := by decide +kernel
theorem dX1_missed_12 : decode cX1_missed 12 = .ok (.getfield 40, 3) := by decide +kernel
theorem dX1_missed_15 : decode cX1_missed 15 = .ok (.if_icmp .ge 75, 3) := by decide +kernel
theorem dX1_missed_90 : decode cX1_missed 90 = .ok (.iload 4, 2) := by decide +kernel
theorem dX1_missed_92 : decode cX1_missed 92 = .ok (.ireturn, 1) := by decide +kernel
theorem dX2_compareHalves_0 : decode cX2_compareHalves 0 = .ok (.aload_n 0, 1) := by decide +kernel
theorem dX2_compareHalves_1 : decode cX2_compareHalves 1 = .ok (.iload_n 1, 1) := by decide +kernel
theorem dX2_compareHalves_2 : decode cX2_compareHalves 2 = .ok (.iload_n 2, 1) := by decide +kernel
theorem dX2_compareHalves_3 : decode cX2_compareHalves 3 = .ok (.iload_n 3, 1) := by decide +kernel
theorem dX2_compareHalves_4 : decode cX2_compareHalves 4 = .ok (.iconst 1, 1) := by decide +kernel
theorem dX2_compareHalves_5 : decode cX2_compareHalves 5 = .ok (.isub, 1) := by decide +kernel
theorem dX2_compareHalves_6 : decode cX2_compareHalves 6 = .ok (.aload_n 0, 1) := by decide +kernel
theorem dX2_compareHalves_7 : decode cX2_compareHalves 7 = .ok (.getfield 9, 3) := by decide +kernel
theorem dX2_compareHalves_10 : decode cX2_compareHalves 10 = .ok (.aload_n 0, 1) := by decide +kernel
theorem dX2_compareHalves_11 : decode cX2_compareHalves 11 = .ok (.getfield 15, 3) := by decide +kernel
theorem dX2_compareHalves_14 : decode cX2_compareHalves 14 = .ok (.invokevirtual 38, 3) := by decide +kernel
theorem dX2_compareHalves_17 : decode cX2_compareHalves 17 = .ok (.aload_n 0, 1) := by decide +kernel
theorem dX2_compareHalves_18 : decode cX2_compareHalves 18 = .ok (.iload_n 1, 1) := by decide +kernel
theorem dX2_compareHalves_19 : decode cX2_compareHalves 19 = .ok (.iload_n 3, 1) := by decide +kernel
theorem dX2_compareHalves_20 : decode cX2_compareHalves 20 = .ok (.iload 4, 2) := by decide +kernel
theorem dX2_compareHalves_22 : decode cX2_compareHalves 22 = .ok (.aload_n 0, 1) := by decide +kernel
theorem dX2_compareHalves_23 : decode cX2_compareHalves 23 = .ok (.getfield 18, 3) := by decide +kernel
theorem dX2_compareHalves_26 : decode cX2_compareHalves 26 = .ok (.aload_n 0, 1) := by decide +kernel
theorem dX2_compareHalves_27 : decode cX2_compareHalves 27 = .ok (.getfield 21, 3) := by decide +kernel
theorem dX2_compareHalves_30 : decode cX2_compareHalves 30 = .ok (.invokevirtual 38, 3) := by decide +kernel
theorem dX2_compareHalves_33 : decode cX2_compareHalves 33 = .ok (.aload_n 0, 1) := by decide +kernel
theorem dX2_compareHalves_34 : decode cX2_compareHalves 34 = .ok (.iconst 0, 1) := by decide +kernel
theorem dX2_compareHalves_35 : decode cX2_compareHalves 35 = .ok (.putfield 24, 3) := by decide +kernel
theorem dX2_compareHalves_38 : decode cX2_compareHalves 38 = .ok (.aload_n 0, 1) := by decide +kernel
theorem dX2_compareHalves_39 : decode cX2_compareHalves 39 = .ok (.iconst 0, 1) := by decide +kernel
theorem dX2_compareHalves_40 : decode cX2_compareHalves 40 = .ok (.putfield 28, 3) := by decide +kernel
theorem dX2_compareHalves_43 : decode cX2_compareHalves 43 = .ok (.aload_n 0, 1) := by decide +kernel
theorem dX2_compareHalves_44 : decode cX2_compareHalves 44 = .ok (.iconst 0, 1) := by decide +kernel
theorem dX2_compareHalves_45 : decode cX2_compareHalves 45 = .ok (.putfield 31, 3) := by decide +kernel
theorem dX2_compareHalves_48 : decode cX2_compareHalves 48 = .ok (.iconst 0, 1) := by decide +kernel
theorem dX2_compareHalves_49 : decode cX2_compareHalves 49 = .ok (.istore 5, 2) := by decide +kernel
theorem dX2_compareHalves_51 : decode cX2_compareHalves 51 = .ok (.iload 5, 2) := by decide +kernel
theorem dX2_compareHalves_53 : decode cX2_compareHalves 53 = .ok (.bipush 20, 2) := by decide +kernel
theorem dX2_compareHalves_55 : decode cX2_compareHalves 55 = .ok (.if_icmp .ge 34, 3) := by decide +kernel
theorem dX2_compareHalves_58 : decode cX2_compareHalves 58 = .ok (.aload_n 0, 1) := by decide +kernel
theorem dX2_compareHalves_59 : decode cX2_compareHalves 59 = .ok (.iload 5, 2) := by decide +kernel
theorem dX2_compareHalves_61 : decode cX2_compareHalves 61 = .ok (.invokevirtual 42, 3) := by decide +kernel
theorem dX2_compareHalves_64 : decode cX2_compareHalves 64 = .ok (.ifCond .eq 19, 3) := by decide +kernel
theorem dX2_compareHalves_83 : decode cX2_compareHalves 83 = .ok (.iinc 5 1, 3) := by decide +kernel
theorem dX2_compareHalves_86 : decode cX2_compareHalves 86 = .ok (.goto (-35), 3) := by decide +kernel
theorem dX2_compareHalves_89 : decode cX2_compareHalves 89 = .ok (.return_, 1) := by decide +kernel
theorem dX2_gatherHalf_0 : decode cX2_gatherHalf 0 = .ok (.iconst 0, 1) := by decide +kernel
theorem dX2_gatherHalf_1 : decode cX2_gatherHalf 1 = .ok (.istore 6, 2) := by decide +kernel
theorem dX2_gatherHalf_3 : decode cX2_gatherHalf 3 = .ok (.iload 6, 2) := by decide +kernel
theorem dX2_gatherHalf_5 : decode cX2_gatherHalf 5 = .ok (.bipush 20, 2) := by decide +kernel
theorem dX2_gatherHalf_7 : decode cX2_gatherHalf 7 = .ok (.if_icmp .ge 98, 3) := by decide +kernel
theorem dX2_gatherHalf_10 : decode cX2_gatherHalf 10 = .ok (.aload 4, 2) := by decide +kernel
theorem dX2_gatherHalf_12 : decode cX2_gatherHalf 12 = .ok (.iload 6, 2) := by decide +kernel
theorem dX2_gatherHalf_14 : decode cX2_gatherHalf 14 = .ok (.lconst 0, 1) := by decide +kernel
theorem dX2_gatherHalf_15 : decode cX2_gatherHalf 15 = .ok (.lastore, 1) := by decide +kernel
theorem dX2_gatherHalf_16 : decode cX2_gatherHalf 16 = .ok (.aload 5, 2) := by decide +kernel
theorem dX2_gatherHalf_18 : decode cX2_gatherHalf 18 = .ok (.iload 6, 2) := by decide +kernel
theorem dX2_gatherHalf_20 : decode cX2_gatherHalf 20 = .ok (.lconst 0, 1) := by decide +kernel
theorem dX2_gatherHalf_21 : decode cX2_gatherHalf 21 = .ok (.lastore, 1) := by decide +kernel
theorem dX2_gatherHalf_22 : decode cX2_gatherHalf 22 = .ok (.iload_n 2, 1) := by decide +kernel
theorem dX2_gatherHalf_23 : decode cX2_gatherHalf 23 = .ok (.istore 7, 2) := by decide +kernel
theorem dX2_gatherHalf_25 : decode cX2_gatherHalf 25 = .ok (.iload 7, 2) := by decide +kernel
theorem dX2_gatherHalf_27 : decode cX2_gatherHalf 27 = .ok (.iload_n 3, 1) := by decide +kernel
theorem dX2_gatherHalf_28 : decode cX2_gatherHalf 28 = .ok (.if_icmp .gt 71, 3) := by decide +kernel
theorem dX2_gatherHalf_31 : decode cX2_gatherHalf 31 = .ok (.iconst 0, 1) := by decide +kernel
theorem dX2_gatherHalf_32 : decode cX2_gatherHalf 32 = .ok (.istore 8, 2) := by decide +kernel
theorem dX2_gatherHalf_34 : decode cX2_gatherHalf 34 = .ok (.iload 8, 2) := by decide +kernel
theorem dX2_gatherHalf_36 : decode cX2_gatherHalf 36 = .ok (.iconst 4, 1) := by decide +kernel
theorem dX2_gatherHalf_37 : decode cX2_gatherHalf 37 = .ok (.if_icmp .ge 56, 3) := by decide +kernel
theorem dX2_gatherHalf_40 : decode cX2_gatherHalf 40 = .ok (.aload_n 0, 1) := by decide +kernel
theorem dX2_gatherHalf_41 : decode cX2_gatherHalf 41 = .ok (.getfield 34, 3) := by decide +kernel
theorem dX2_gatherHalf_44 : decode cX2_gatherHalf 44 = .ok (.iload 6, 2) := by decide +kernel
theorem dX2_gatherHalf_46 : decode cX2_gatherHalf 46 = .ok (.iload 7, 2) := by decide +kernel
theorem dX2_gatherHalf_48 : decode cX2_gatherHalf 48 = .ok (.iload 8, 2) := by decide +kernel
theorem dX2_gatherHalf_50 : decode cX2_gatherHalf 50 = .ok (.invokevirtual 50, 3) := by decide +kernel
theorem dX2_gatherHalf_53 : decode cX2_gatherHalf 53 = .ok (.ifCond .eq 40, 3) := by decide +kernel
theorem dX2_gatherHalf_93 : decode cX2_gatherHalf 93 = .ok (.iinc 7 1, 3) := by decide +kernel
theorem dX2_gatherHalf_96 : decode cX2_gatherHalf 96 = .ok (.goto (-71), 3) := by decide +kernel
theorem dX2_gatherHalf_99 : decode cX2_gatherHalf 99 = .ok (.iinc 6 1, 3) := by decide +kernel
theorem dX2_gatherHalf_102 : decode cX2_gatherHalf 102 = .ok (.goto (-99), 3) := by decide +kernel
theorem dX2_gatherHalf_105 : decode cX2_gatherHalf 105 = .ok (.return_, 1) := by decide +kernel
theorem dX2_isInBoth_0 : decode cX2_isInBoth 0 = .ok (.aload_n 0, 1) := by decide +kernel
theorem dX2_isInBoth_1 : decode cX2_isInBoth 1 = .ok (.getfield 15, 3) := by decide +kernel
theorem dX2_isInBoth_4 : decode cX2_isInBoth 4 = .ok (.iload_n 1, 1) := by decide +kernel
theorem dX2_isInBoth_5 : decode cX2_isInBoth 5 = .ok (.laload, 1) := by decide +kernel
theorem dX2_isInBoth_6 : decode cX2_isInBoth 6 = .ok (.lconst 0, 1) := by decide +kernel
theorem dX2_isInBoth_7 : decode cX2_isInBoth 7 = .ok (.lcmp, 1) := by decide +kernel
theorem dX2_isInBoth_8 : decode cX2_isInBoth 8 = .ok (.ifCond .le 18, 3) := by decide +kernel
theorem dX2_isInBoth_26 : decode cX2_isInBoth 26 = .ok (.iconst 0, 1) := by decide +kernel
theorem dX2_isInBoth_27 : decode cX2_isInBoth 27 = .ok (.ireturn, 1) := by decide +kernel
theorem dX2_lastingPart_0 : decode cX2_lastingPart 0 = .ok (.iconst 0, 1) := by decide +kernel
theorem dX2_lastingPart_1 : decode cX2_lastingPart 1 = .ok (.istore 4, 2) := by decide +kernel
theorem dX2_lastingPart_3 : decode cX2_lastingPart 3 = .ok (.iconst 0, 1) := by decide +kernel
theorem dX2_lastingPart_4 : decode cX2_lastingPart 4 = .ok (.istore 5, 2) := by decide +kernel
theorem dX2_lastingPart_6 : decode cX2_lastingPart 6 = .ok (.iconst 0, 1) := by decide +kernel
theorem dX2_lastingPart_7 : decode cX2_lastingPart 7 = .ok (.istore 6, 2) := by decide +kernel
theorem dX2_lastingPart_9 : decode cX2_lastingPart 9 = .ok (.iload 6, 2) := by decide +kernel
theorem dX2_lastingPart_11 : decode cX2_lastingPart 11 = .ok (.iconst 4, 1) := by decide +kernel
theorem dX2_lastingPart_12 : decode cX2_lastingPart 12 = .ok (.if_icmp .ge 52, 3) := by decide +kernel
theorem dX2_lastingPart_15 : decode cX2_lastingPart 15 = .ok (.aload_n 0, 1) := by decide +kernel
theorem dX2_lastingPart_16 : decode cX2_lastingPart 16 = .ok (.iload 6, 2) := by decide +kernel
theorem dX2_lastingPart_18 : decode cX2_lastingPart 18 = .ok (.iload_n 1, 1) := by decide +kernel
theorem dX2_lastingPart_19 : decode cX2_lastingPart 19 = .ok (.iload_n 2, 1) := by decide +kernel
theorem dX2_lastingPart_20 : decode cX2_lastingPart 20 = .ok (.iload_n 3, 1) := by decide +kernel
theorem dX2_lastingPart_21 : decode cX2_lastingPart 21 = .ok (.invokevirtual 70, 3) := by decide +kernel
theorem dX2_lastingPart_24 : decode cX2_lastingPart 24 = .ok (.iload 6, 2) := by decide +kernel
theorem dX2_lastingPart_26 : decode cX2_lastingPart 26 = .ok (.ifCond .eq 17, 3) := by decide +kernel
theorem dX2_lastingPart_29 : decode cX2_lastingPart 29 = .ok (.aload_n 0, 1) := by decide +kernel
theorem dX2_lastingPart_30 : decode cX2_lastingPart 30 = .ok (.getfield 24, 3) := by decide +kernel
theorem dX2_lastingPart_33 : decode cX2_lastingPart 33 = .ok (.aload_n 0, 1) := by decide +kernel
theorem dX2_lastingPart_34 : decode cX2_lastingPart 34 = .ok (.getfield 28, 3) := by decide +kernel
theorem dX2_lastingPart_37 : decode cX2_lastingPart 37 = .ok (.isub, 1) := by decide +kernel
theorem dX2_lastingPart_38 : decode cX2_lastingPart 38 = .ok (.iload 5, 2) := by decide +kernel
theorem dX2_lastingPart_40 : decode cX2_lastingPart 40 = .ok (.if_icmp .le 18, 3) := by decide +kernel
theorem dX2_lastingPart_43 : decode cX2_lastingPart 43 = .ok (.iload 6, 2) := by decide +kernel
theorem dX2_lastingPart_45 : decode cX2_lastingPart 45 = .ok (.istore 4, 2) := by decide +kernel
theorem dX2_lastingPart_47 : decode cX2_lastingPart 47 = .ok (.aload_n 0, 1) := by decide +kernel
theorem dX2_lastingPart_48 : decode cX2_lastingPart 48 = .ok (.getfield 24, 3) := by decide +kernel
theorem dX2_lastingPart_51 : decode cX2_lastingPart 51 = .ok (.aload_n 0, 1) := by decide +kernel
theorem dX2_lastingPart_52 : decode cX2_lastingPart 52 = .ok (.getfield 28, 3) := by decide +kernel
theorem dX2_lastingPart_55 : decode cX2_lastingPart 55 = .ok (.isub, 1) := by decide +kernel
theorem dX2_lastingPart_56 : decode cX2_lastingPart 56 = .ok (.istore 5, 2) := by decide +kernel
theorem dX2_lastingPart_58 : decode cX2_lastingPart 58 = .ok (.iinc 6 1, 3) := by decide +kernel
theorem dX2_lastingPart_61 : decode cX2_lastingPart 61 = .ok (.goto (-52), 3) := by decide +kernel
theorem dX2_lastingPart_64 : decode cX2_lastingPart 64 = .ok (.iload 4, 2) := by decide +kernel
theorem dX2_lastingPart_66 : decode cX2_lastingPart 66 = .ok (.ireturn, 1) := by decide +kernel
theorem dX5_clear_0 : decode cX5_clear 0 = .ok (.aload_n 0, 1) := by decide +kernel
theorem dX5_clear_1 : decode cX5_clear 1 = .ok (.iconst 0, 1) := by decide +kernel
theorem dX5_clear_2 : decode cX5_clear 2 = .ok (.putfield 18, 3) := by decide +kernel
theorem dX5_clear_5 : decode cX5_clear 5 = .ok (.return_, 1) := by decide +kernel
theorem dX5_size_0 : decode cX5_size 0 = .ok (.aload_n 0, 1) := by decide +kernel
theorem dX5_size_1 : decode cX5_size 1 = .ok (.getfield 18, 3) := by decide +kernel
theorem dX5_size_4 : decode cX5_size 4 = .ok (.ireturn, 1) := by decide +kernel
theorem dX6_pick_0 : decode cX6_pick 0 = .ok (.aload_n 0, 1) := by decide +kernel
theorem dX6_pick_1 : decode cX6_pick 1 = .ok (.getfield 13, 3) := by decide +kernel
theorem dX6_pick_4 : decode cX6_pick 4 = .ok (.lconst 0, 1) := by decide +kernel
theorem dX6_pick_5 : decode cX6_pick 5 = .ok (.lcmp, 1) := by decide +kernel
theorem dX6_pick_6 : decode cX6_pick 6 = .ok (.ifCond .eq 12, 3) := by decide +kernel
theorem dX6_pick_18 : decode cX6_pick 18 = .ok (.lload_n 2, 1) := by decide +kernel
theorem dX6_pick_19 : decode cX6_pick 19 = .ok (.lreturn, 1) := by decide +kernel
theorem dX6_set_0 : decode cX6_set 0 = .ok (.lload_n 3, 1) := by decide +kernel
theorem dX6_set_1 : decode cX6_set 1 = .ok (.lconst 0, 1) := by decide +kernel
theorem dX6_set_2 : decode cX6_set 2 = .ok (.lcmp, 1) := by decide +kernel
theorem dX6_set_3 : decode cX6_set 3 = .ok (.ifCond .le 14, 3) := by decide +kernel
theorem dX6_set_17 : decode cX6_set 17 = .ok (.lconst 0, 1) := by decide +kernel
theorem dX6_set_18 : decode cX6_set 18 = .ok (.lstore 5, 2) := by decide +kernel
theorem dX6_set_20 : decode cX6_set 20 = .ok (.lload 5, 2) := by decide +kernel
theorem dX6_set_22 : decode cX6_set 22 = .ok (.lconst 1, 1) := by decide +kernel
theorem dX6_set_23 : decode cX6_set 23 = .ok (.lcmp, 1) := by decide +kernel
theorem dX6_set_24 : decode cX6_set 24 = .ok (.ifCond .ge 10, 3) := by decide +kernel
theorem dX6_set_27 : decode cX6_set 27 = .ok (.aload_n 0, 1) := by decide +kernel
theorem dX6_set_28 : decode cX6_set 28 = .ok (.invokevirtual 26, 3) := by decide +kernel
theorem dX6_set_31 : decode cX6_set 31 = .ok (.goto 19, 3) := by decide +kernel
theorem dX6_set_50 : decode cX6_set 50 = .ok (.return_, 1) := by decide +kernel
theorem dX6_setNone_0 : decode cX6_setNone 0 = .ok (.aload_n 0, 1) := by decide +kernel
theorem dX6_setNone_1 : decode cX6_setNone 1 = .ok (.lconst 0, 1) := by decide +kernel
theorem dX6_setNone_2 : decode cX6_setNone 2 = .ok (.putfield 7, 3) := by decide +kernel
theorem dX6_setNone_5 : decode cX6_setNone 5 = .ok (.aload_n 0, 1) := by decide +kernel
theorem dX6_setNone_6 : decode cX6_setNone 6 = .ok (.lconst 0, 1) := by decide +kernel
theorem dX6_setNone_7 : decode cX6_setNone 7 = .ok (.putfield 13, 3) := by decide +kernel
theorem dX6_setNone_10 : decode cX6_setNone 10 = .ok (.return_, 1) := by decide +kernel
theorem dX7_addShares_0 : decode cX7_addShares 0 = .ok (.aload_n 0, 1) := by decide +kernel
theorem dX7_addShares_1 : decode cX7_addShares 1 = .ok (.iload_n 1, 1) := by decide +kernel
theorem dX7_addShares_2 : decode cX7_addShares 2 = .ok (.aload_n 0, 1) := by decide +kernel
theorem dX7_addShares_3 : decode cX7_addShares 3 = .ok (.iload_n 1, 1) := by decide +kernel
theorem dX7_addShares_4 : decode cX7_addShares 4 = .ok (.invokevirtual 51, 3) := by decide +kernel
theorem dX7_addShares_7 : decode cX7_addShares 7 = .ok (.invokevirtual 55, 3) := by decide +kernel
theorem dX7_addShares_10 : decode cX7_addShares 10 = .ok (.iconst 0, 1) := by decide +kernel
theorem dX7_addShares_11 : decode cX7_addShares 11 = .ok (.istore_n 3, 1) := by decide +kernel
theorem dX7_addShares_12 : decode cX7_addShares 12 = .ok (.iload_n 3, 1) := by decide +kernel
theorem dX7_addShares_13 : decode cX7_addShares 13 = .ok (.aload_n 0, 1) := by decide +kernel
theorem dX7_addShares_14 : decode cX7_addShares 14 = .ok (.getfield 12, 3) := by decide +kernel
theorem dX7_addShares_17 : decode cX7_addShares 17 = .ok (.invokevirtual 71, 3) := by decide +kernel
theorem dX7_addShares_20 : decode cX7_addShares 20 = .ok (.if_icmp .ge 124, 3) := by decide +kernel
theorem dX7_addShares_144 : decode cX7_addShares 144 = .ok (.return_, 1) := by decide +kernel
theorem dX7_firstOf_0 : decode cX7_firstOf 0 = .ok (.aload_n 0, 1) := by decide +kernel
theorem dX7_firstOf_1 : decode cX7_firstOf 1 = .ok (.iload_n 1, 1) := by decide +kernel
theorem dX7_firstOf_2 : decode cX7_firstOf 2 = .ok (.iload_n 2, 1) := by decide +kernel
theorem dX7_firstOf_3 : decode cX7_firstOf 3 = .ok (.iload_n 3, 1) := by decide +kernel
theorem dX7_firstOf_4 : decode cX7_firstOf 4 = .ok (.aload 5, 2) := by decide +kernel
theorem dX7_firstOf_6 : decode cX7_firstOf 6 = .ok (.invokevirtual 93, 3) := by decide +kernel
theorem dX7_firstOf_9 : decode cX7_firstOf 9 = .ok (.iconst 0, 1) := by decide +kernel
theorem dX7_firstOf_10 : decode cX7_firstOf 10 = .ok (.istore 6, 2) := by decide +kernel
theorem dX7_firstOf_12 : decode cX7_firstOf 12 = .ok (.iconst 0, 1) := by decide +kernel
theorem dX7_firstOf_13 : decode cX7_firstOf 13 = .ok (.istore 7, 2) := by decide +kernel
theorem dX7_firstOf_15 : decode cX7_firstOf 15 = .ok (.iload 7, 2) := by decide +kernel
theorem dX7_firstOf_17 : decode cX7_firstOf 17 = .ok (.iload 4, 2) := by decide +kernel
theorem dX7_firstOf_19 : decode cX7_firstOf 19 = .ok (.if_icmp .ge 37, 3) := by decide +kernel
theorem dX7_firstOf_22 : decode cX7_firstOf 22 = .ok (.iload 7, 2) := by decide +kernel
theorem dX7_firstOf_24 : decode cX7_firstOf 24 = .ok (.aload_n 0, 1) := by decide +kernel
theorem dX7_firstOf_25 : decode cX7_firstOf 25 = .ok (.getfield 12, 3) := by decide +kernel
theorem dX7_firstOf_28 : decode cX7_firstOf 28 = .ok (.invokevirtual 71, 3) := by decide +kernel
theorem dX7_firstOf_31 : decode cX7_firstOf 31 = .ok (.if_icmp .ge 25, 3) := by decide +kernel
theorem dX7_firstOf_56 : decode cX7_firstOf 56 = .ok (.iload 6, 2) := by decide +kernel
theorem dX7_firstOf_58 : decode cX7_firstOf 58 = .ok (.ireturn, 1) := by decide +kernel
theorem dX7_lastDayOf_0 : decode cX7_lastDayOf 0 = .ok (.iconst (-1), 1) := by decide +kernel
theorem dX7_lastDayOf_1 : decode cX7_lastDayOf 1 = .ok (.istore_n 2, 1) := by decide +kernel
theorem dX7_lastDayOf_2 : decode cX7_lastDayOf 2 = .ok (.iconst 0, 1) := by decide +kernel
theorem dX7_lastDayOf_3 : decode cX7_lastDayOf 3 = .ok (.istore_n 3, 1) := by decide +kernel
theorem dX7_lastDayOf_4 : decode cX7_lastDayOf 4 = .ok (.iload_n 3, 1) := by decide +kernel
theorem dX7_lastDayOf_5 : decode cX7_lastDayOf 5 = .ok (.iconst 4, 1) := by decide +kernel
theorem dX7_lastDayOf_6 : decode cX7_lastDayOf 6 = .ok (.if_icmp .ge 23, 3) := by decide +kernel
theorem dX7_lastDayOf_9 : decode cX7_lastDayOf 9 = .ok (.aload_n 0, 1) := by decide +kernel
theorem dX7_lastDayOf_10 : decode cX7_lastDayOf 10 = .ok (.getfield 22, 3) := by decide +kernel
theorem dX7_lastDayOf_13 : decode cX7_lastDayOf 13 = .ok (.iload_n 1, 1) := by decide +kernel
theorem dX7_lastDayOf_14 : decode cX7_lastDayOf 14 = .ok (.iload_n 3, 1) := by decide +kernel
theorem dX7_lastDayOf_15 : decode cX7_lastDayOf 15 = .ok (.invokevirtual 26, 3) := by decide +kernel
theorem dX7_lastDayOf_18 : decode cX7_lastDayOf 18 = .ok (.ifCond .le 5, 3) := by decide +kernel
theorem dX7_lastDayOf_23 : decode cX7_lastDayOf 23 = .ok (.iinc 3 1, 3) := by decide +kernel
theorem dX7_lastDayOf_26 : decode cX7_lastDayOf 26 = .ok (.goto (-22), 3) := by decide +kernel
theorem dX7_lastDayOf_29 : decode cX7_lastDayOf 29 = .ok (.iload_n 2, 1) := by decide +kernel
theorem dX7_lastDayOf_30 : decode cX7_lastDayOf 30 = .ok (.ireturn, 1) := by decide +kernel
theorem dX7_leadersOf_0 : decode cX7_leadersOf 0 = .ok (.aload_n 0, 1) := by decide +kernel
theorem dX7_leadersOf_1 : decode cX7_leadersOf 1 = .ok (.getfield 12, 3) := by decide +kernel
theorem dX7_leadersOf_4 : decode cX7_leadersOf 4 = .ok (.invokevirtual 32, 3) := by decide +kernel
theorem dX7_leadersOf_7 : decode cX7_leadersOf 7 = .ok (.iload 4, 2) := by decide +kernel
theorem dX7_leadersOf_9 : decode cX7_leadersOf 9 = .ok (.ifCond .ne 7, 3) := by decide +kernel
theorem dX7_leadersOf_12 : decode cX7_leadersOf 12 = .ok (.iload_n 2, 1) := by decide +kernel
theorem dX7_leadersOf_13 : decode cX7_leadersOf 13 = .ok (.goto 6, 3) := by decide +kernel
theorem dX7_leadersOf_16 : decode cX7_leadersOf 16 = .ok (.iload_n 2, 1) := by decide +kernel
theorem dX7_leadersOf_17 : decode cX7_leadersOf 17 = .ok (.iconst 1, 1) := by decide +kernel
theorem dX7_leadersOf_18 : decode cX7_leadersOf 18 = .ok (.iadd, 1) := by decide +kernel
theorem dX7_leadersOf_19 : decode cX7_leadersOf 19 = .ok (.istore 5, 2) := by decide +kernel
theorem dX7_leadersOf_21 : decode cX7_leadersOf 21 = .ok (.iconst 0, 1) := by decide +kernel
theorem dX7_leadersOf_22 : decode cX7_leadersOf 22 = .ok (.istore 6, 2) := by decide +kernel
theorem dX7_leadersOf_24 : decode cX7_leadersOf 24 = .ok (.iconst 0, 1) := by decide +kernel
theorem dX7_leadersOf_25 : decode cX7_leadersOf 25 = .ok (.istore 7, 2) := by decide +kernel
theorem dX7_leadersOf_27 : decode cX7_leadersOf 27 = .ok (.iload 7, 2) := by decide +kernel
theorem dX7_leadersOf_29 : decode cX7_leadersOf 29 = .ok (.aload_n 0, 1) := by decide +kernel
theorem dX7_leadersOf_30 : decode cX7_leadersOf 30 = .ok (.getfield 22, 3) := by decide +kernel
theorem dX7_leadersOf_33 : decode cX7_leadersOf 33 = .ok (.getfield 35, 3) := by decide +kernel
theorem dX7_leadersOf_36 : decode cX7_leadersOf 36 = .ok (.if_icmp .ge 63, 3) := by decide +kernel
theorem dX7_leadersOf_99 : decode cX7_leadersOf 99 = .ok (.aload_n 0, 1) := by decide +kernel
theorem dX7_leadersOf_100 : decode cX7_leadersOf 100 = .ok (.getfield 12, 3) := by decide +kernel
theorem dX7_leadersOf_103 : decode cX7_leadersOf 103 = .ok (.invokevirtual 71, 3) := by decide +kernel
theorem dX7_leadersOf_106 : decode cX7_leadersOf 106 = .ok (.istore 7, 2) := by decide +kernel
theorem dX7_leadersOf_108 : decode cX7_leadersOf 108 = .ok (.iload 7, 2) := by decide +kernel
theorem dX7_leadersOf_110 : decode cX7_leadersOf 110 = .ok (.iconst 2, 1) := by decide +kernel
theorem dX7_leadersOf_111 : decode cX7_leadersOf 111 = .ok (.if_icmp .ge 5, 3) := by decide +kernel
theorem dX7_leadersOf_114 : decode cX7_leadersOf 114 = .ok (.iconst 0, 1) := by decide +kernel
theorem dX7_leadersOf_115 : decode cX7_leadersOf 115 = .ok (.ireturn, 1) := by decide +kernel
theorem dX7_rankByGains_0 : decode cX7_rankByGains 0 = .ok (.aload_n 0, 1) := by decide +kernel
theorem dX7_rankByGains_1 : decode cX7_rankByGains 1 = .ok (.getfield 18, 3) := by decide +kernel
theorem dX7_rankByGains_4 : decode cX7_rankByGains 4 = .ok (.iconst 0, 1) := by decide +kernel
theorem dX7_rankByGains_5 : decode cX7_rankByGains 5 = .ok (.invokestatic 61, 3) := by decide +kernel
theorem dX7_rankByGains_8 : decode cX7_rankByGains 8 = .ok (.iload_n 1, 1) := by decide +kernel
theorem dX7_rankByGains_9 : decode cX7_rankByGains 9 = .ok (.istore 5, 2) := by decide +kernel
theorem dX7_rankByGains_11 : decode cX7_rankByGains 11 = .ok (.iload 5, 2) := by decide +kernel
theorem dX7_rankByGains_13 : decode cX7_rankByGains 13 = .ok (.iload_n 2, 1) := by decide +kernel
theorem dX7_rankByGains_14 : decode cX7_rankByGains 14 = .ok (.if_icmp .gt 30, 3) := by decide +kernel
theorem dX7_rankByGains_17 : decode cX7_rankByGains 17 = .ok (.iload_n 3, 1) := by decide +kernel
theorem dX7_rankByGains_18 : decode cX7_rankByGains 18 = .ok (.iconst 2, 1) := by decide +kernel
theorem dX7_rankByGains_19 : decode cX7_rankByGains 19 = .ok (.if_icmp .eq 11, 3) := by decide +kernel
theorem dX7_rankByGains_22 : decode cX7_rankByGains 22 = .ok (.iload 5, 2) := by decide +kernel
theorem dX7_rankByGains_24 : decode cX7_rankByGains 24 = .ok (.iconst 2, 1) := by decide +kernel
theorem dX7_rankByGains_25 : decode cX7_rankByGains 25 = .ok (.irem, 1) := by decide +kernel
theorem dX7_rankByGains_26 : decode cX7_rankByGains 26 = .ok (.iload_n 3, 1) := by decide +kernel
theorem dX7_rankByGains_27 : decode cX7_rankByGains 27 = .ok (.if_icmp .ne 11, 3) := by decide +kernel
theorem dX7_rankByGains_30 : decode cX7_rankByGains 30 = .ok (.aload_n 0, 1) := by decide +kernel
theorem dX7_rankByGains_31 : decode cX7_rankByGains 31 = .ok (.iload 5, 2) := by decide +kernel
theorem dX7_rankByGains_33 : decode cX7_rankByGains 33 = .ok (.aload 4, 2) := by decide +kernel
theorem dX7_rankByGains_35 : decode cX7_rankByGains 35 = .ok (.invokevirtual 67, 3) := by decide +kernel
theorem dX7_rankByGains_38 : decode cX7_rankByGains 38 = .ok (.iinc 5 1, 3) := by decide +kernel
theorem dX7_rankByGains_41 : decode cX7_rankByGains 41 = .ok (.goto (-30), 3) := by decide +kernel
theorem dX7_rankByGains_44 : decode cX7_rankByGains 44 = .ok (.aload_n 0, 1) := by decide +kernel
theorem dX7_rankByGains_45 : decode cX7_rankByGains 45 = .ok (.getfield 12, 3) := by decide +kernel
theorem dX7_rankByGains_48 : decode cX7_rankByGains 48 = .ok (.invokevirtual 32, 3) := by decide +kernel
theorem dX7_rankByGains_51 : decode cX7_rankByGains 51 = .ok (.iconst 0, 1) := by decide +kernel
theorem dX7_rankByGains_52 : decode cX7_rankByGains 52 = .ok (.istore 5, 2) := by decide +kernel
theorem dX7_rankByGains_54 : decode cX7_rankByGains 54 = .ok (.iload 5, 2) := by decide +kernel
theorem dX7_rankByGains_56 : decode cX7_rankByGains 56 = .ok (.aload_n 0, 1) := by decide +kernel
theorem dX7_rankByGains_57 : decode cX7_rankByGains 57 = .ok (.getfield 22, 3) := by decide +kernel
theorem dX7_rankByGains_60 : decode cX7_rankByGains 60 = .ok (.getfield 35, 3) := by decide +kernel
theorem dX7_rankByGains_63 : decode cX7_rankByGains 63 = .ok (.if_icmp .ge 33, 3) := by decide +kernel
theorem dX7_rankByGains_96 : decode cX7_rankByGains 96 = .ok (.return_, 1) := by decide +kernel
theorem dX7_rankBySums_0 : decode cX7_rankBySums 0 = .ok (.aload_n 0, 1) := by decide +kernel
theorem dX7_rankBySums_1 : decode cX7_rankBySums 1 = .ok (.getfield 12, 3) := by decide +kernel
theorem dX7_rankBySums_4 : decode cX7_rankBySums 4 = .ok (.invokevirtual 32, 3) := by decide +kernel
theorem dX7_rankBySums_7 : decode cX7_rankBySums 7 = .ok (.iconst 0, 1) := by decide +kernel
theorem dX7_rankBySums_8 : decode cX7_rankBySums 8 = .ok (.istore_n 3, 1) := by decide +kernel
theorem dX7_rankBySums_9 : decode cX7_rankBySums 9 = .ok (.iload_n 3, 1) := by decide +kernel
theorem dX7_rankBySums_10 : decode cX7_rankBySums 10 = .ok (.aload_n 0, 1) := by decide +kernel
theorem dX7_rankBySums_11 : decode cX7_rankBySums 11 = .ok (.getfield 22, 3) := by decide +kernel
theorem dX7_rankBySums_14 : decode cX7_rankBySums 14 = .ok (.getfield 35, 3) := by decide +kernel
theorem dX7_rankBySums_17 : decode cX7_rankBySums 17 = .ok (.if_icmp .ge 40, 3) := by decide +kernel
theorem dX7_rankBySums_57 : decode cX7_rankBySums 57 = .ok (.return_, 1) := by decide +kernel
theorem dX8_addCouplesOfDay_0 : decode cX8_addCouplesOfDay 0 = .ok (.aload_n 0, 1) := by decide +kernel
theorem dX8_addCouplesOfDay_1 : decode cX8_addCouplesOfDay 1 = .ok (.getfield 34, 3) := by decide +kernel
theorem dX8_addCouplesOfDay_4 : decode cX8_addCouplesOfDay 4 = .ok (.iload_n 1, 1) := by decide +kernel
theorem dX8_addCouplesOfDay_5 : decode cX8_addCouplesOfDay 5 = .ok (.iload_n 2, 1) := by decide +kernel
theorem dX8_addCouplesOfDay_6 : decode cX8_addCouplesOfDay 6 = .ok (.invokevirtual 71, 3) := by decide +kernel
theorem dX8_addCouplesOfDay_9 : decode cX8_addCouplesOfDay 9 = .ok (.ifCond .ne 4, 3) := by decide +kernel
theorem dX8_addCouplesOfDay_12 : decode cX8_addCouplesOfDay 12 = .ok (.return_, 1) := by decide +kernel
theorem dX8_compareCouples_0 : decode cX8_compareCouples 0 = .ok (.aload_n 0, 1) := by decide +kernel
theorem dX8_compareCouples_1 : decode cX8_compareCouples 1 = .ok (.lconst 0, 1) := by decide +kernel
theorem dX8_compareCouples_2 : decode cX8_compareCouples 2 = .ok (.putfield 28, 3) := by decide +kernel
theorem dX8_compareCouples_5 : decode cX8_compareCouples 5 = .ok (.aload_n 0, 1) := by decide +kernel
theorem dX8_compareCouples_6 : decode cX8_compareCouples 6 = .ok (.lconst 0, 1) := by decide +kernel
theorem dX8_compareCouples_7 : decode cX8_compareCouples 7 = .ok (.putfield 31, 3) := by decide +kernel
theorem dX8_compareCouples_10 : decode cX8_compareCouples 10 = .ok (.iconst 0, 1) := by decide +kernel
theorem dX8_compareCouples_11 : decode cX8_compareCouples 11 = .ok (.istore 5, 2) := by decide +kernel
theorem dX8_compareCouples_13 : decode cX8_compareCouples 13 = .ok (.iload 5, 2) := by decide +kernel
theorem dX8_compareCouples_15 : decode cX8_compareCouples 15 = .ok (.aload_n 0, 1) := by decide +kernel
theorem dX8_compareCouples_16 : decode cX8_compareCouples 16 = .ok (.getfield 34, 3) := by decide +kernel
theorem dX8_compareCouples_19 : decode cX8_compareCouples 19 = .ok (.getfield 38, 3) := by decide +kernel
theorem dX8_compareCouples_22 : decode cX8_compareCouples 22 = .ok (.if_icmp .ge 33, 3) := by decide +kernel
theorem dX8_compareCouples_55 : decode cX8_compareCouples 55 = .ok (.aload_n 0, 1) := by decide +kernel
theorem dX8_compareCouples_56 : decode cX8_compareCouples 56 = .ok (.getfield 28, 3) := by decide +kernel
theorem dX8_compareCouples_59 : decode cX8_compareCouples 59 = .ok (.lstore 5, 2) := by decide +kernel
theorem dX8_compareCouples_61 : decode cX8_compareCouples 61 = .ok (.aload_n 0, 1) := by decide +kernel
theorem dX8_compareCouples_62 : decode cX8_compareCouples 62 = .ok (.getfield 31, 3) := by decide +kernel
theorem dX8_compareCouples_65 : decode cX8_compareCouples 65 = .ok (.lstore 7, 2) := by decide +kernel
theorem dX8_compareCouples_67 : decode cX8_compareCouples 67 = .ok (.aload_n 0, 1) := by decide +kernel
theorem dX8_compareCouples_68 : decode cX8_compareCouples 68 = .ok (.lconst 0, 1) := by decide +kernel
theorem dX8_compareCouples_69 : decode cX8_compareCouples 69 = .ok (.putfield 28, 3) := by decide +kernel
theorem dX8_compareCouples_72 : decode cX8_compareCouples 72 = .ok (.aload_n 0, 1) := by decide +kernel
theorem dX8_compareCouples_73 : decode cX8_compareCouples 73 = .ok (.lconst 0, 1) := by decide +kernel
theorem dX8_compareCouples_74 : decode cX8_compareCouples 74 = .ok (.putfield 31, 3) := by decide +kernel
theorem dX8_compareCouples_77 : decode cX8_compareCouples 77 = .ok (.iload_n 2, 1) := by decide +kernel
theorem dX8_compareCouples_78 : decode cX8_compareCouples 78 = .ok (.istore 9, 2) := by decide +kernel
theorem dX8_compareCouples_80 : decode cX8_compareCouples 80 = .ok (.iload 9, 2) := by decide +kernel
theorem dX8_compareCouples_82 : decode cX8_compareCouples 82 = .ok (.iload_n 3, 1) := by decide +kernel
theorem dX8_compareCouples_83 : decode cX8_compareCouples 83 = .ok (.if_icmp .gt 33, 3) := by decide +kernel
theorem dX8_compareCouples_86 : decode cX8_compareCouples 86 = .ok (.iconst 0, 1) := by decide +kernel
theorem dX8_compareCouples_87 : decode cX8_compareCouples 87 = .ok (.istore 10, 2) := by decide +kernel
theorem dX8_compareCouples_89 : decode cX8_compareCouples 89 = .ok (.iload 10, 2) := by decide +kernel
theorem dX8_compareCouples_91 : decode cX8_compareCouples 91 = .ok (.iconst 4, 1) := by decide +kernel
theorem dX8_compareCouples_92 : decode cX8_compareCouples 92 = .ok (.if_icmp .ge 18, 3) := by decide +kernel
theorem dX8_compareCouples_95 : decode cX8_compareCouples 95 = .ok (.aload_n 0, 1) := by decide +kernel
theorem dX8_compareCouples_96 : decode cX8_compareCouples 96 = .ok (.iload 9, 2) := by decide +kernel
theorem dX8_compareCouples_98 : decode cX8_compareCouples 98 = .ok (.iload 10, 2) := by decide +kernel
theorem dX8_compareCouples_100 : decode cX8_compareCouples 100 = .ok (.iload_n 1, 1) := by decide +kernel
theorem dX8_compareCouples_101 : decode cX8_compareCouples 101 = .ok (.invokevirtual 47, 3) := by decide +kernel
theorem dX8_compareCouples_104 : decode cX8_compareCouples 104 = .ok (.iinc 10 1, 3) := by decide +kernel
theorem dX8_compareCouples_107 : decode cX8_compareCouples 107 = .ok (.goto (-18), 3) := by decide +kernel
theorem dX8_compareCouples_110 : decode cX8_compareCouples 110 = .ok (.iinc 9 1, 3) := by decide +kernel
theorem dX8_compareCouples_113 : decode cX8_compareCouples 113 = .ok (.goto (-33), 3) := by decide +kernel
theorem dX8_compareCouples_116 : decode cX8_compareCouples 116 = .ok (.lload 7, 2) := by decide +kernel
theorem dX8_compareCouples_118 : decode cX8_compareCouples 118 = .ok (.lconst 0, 1) := by decide +kernel
theorem dX8_compareCouples_119 : decode cX8_compareCouples 119 = .ok (.lcmp, 1) := by decide +kernel
theorem dX8_compareCouples_120 : decode cX8_compareCouples 120 = .ok (.ifCond .eq 12, 3) := by decide +kernel
theorem dX8_compareCouples_132 : decode cX8_compareCouples 132 = .ok (.aload 4, 2) := by decide +kernel
theorem dX8_compareCouples_134 : decode cX8_compareCouples 134 = .ok (.invokevirtual 50, 3) := by decide +kernel
theorem dX8_compareCouples_137 : decode cX8_compareCouples 137 = .ok (.goto 22, 3) := by decide +kernel
theorem dX8_compareCouples_159 : decode cX8_compareCouples 159 = .ok (.return_, 1) := by decide +kernel
theorem dX8_findOther_0 : decode cX8_findOther 0 = .ok (.aload_n 0, 1) := by decide +kernel
theorem dX8_findOther_1 : decode cX8_findOther 1 = .ok (.iconst (-1), 1) := by decide +kernel
theorem dX8_findOther_2 : decode cX8_findOther 2 = .ok (.putfield 18, 3) := by decide +kernel
theorem dX8_findOther_5 : decode cX8_findOther 5 = .ok (.aload_n 0, 1) := by decide +kernel
theorem dX8_findOther_6 : decode cX8_findOther 6 = .ok (.iconst 0, 1) := by decide +kernel
theorem dX8_findOther_7 : decode cX8_findOther 7 = .ok (.putfield 21, 3) := by decide +kernel
theorem dX8_findOther_10 : decode cX8_findOther 10 = .ok (.iconst 0, 1) := by decide +kernel
theorem dX8_findOther_11 : decode cX8_findOther 11 = .ok (.istore_n 1, 1) := by decide +kernel
theorem dX8_findOther_12 : decode cX8_findOther 12 = .ok (.iload_n 1, 1) := by decide +kernel
theorem dX8_findOther_13 : decode cX8_findOther 13 = .ok (.aload_n 0, 1) := by decide +kernel
theorem dX8_findOther_14 : decode cX8_findOther 14 = .ok (.getfield 34, 3) := by decide +kernel
theorem dX8_findOther_17 : decode cX8_findOther 17 = .ok (.getfield 38, 3) := by decide +kernel
theorem dX8_findOther_20 : decode cX8_findOther 20 = .ok (.if_icmp .ge 71, 3) := by decide +kernel
theorem dX8_findOther_91 : decode cX8_findOther 91 = .ok (.return_, 1) := by decide +kernel
theorem dX8_putRight_0 : decode cX8_putRight 0 = .ok (.lconst 0, 1) := by decide +kernel
theorem dX8_putRight_1 : decode cX8_putRight 1 = .ok (.lstore 4, 2) := by decide +kernel
theorem dX8_putRight_3 : decode cX8_putRight 3 = .ok (.lconst 0, 1) := by decide +kernel
theorem dX8_putRight_4 : decode cX8_putRight 4 = .ok (.lstore 6, 2) := by decide +kernel
theorem dX8_putRight_6 : decode cX8_putRight 6 = .ok (.lconst 0, 1) := by decide +kernel
theorem dX8_putRight_7 : decode cX8_putRight 7 = .ok (.lstore 8, 2) := by decide +kernel
theorem dX8_putRight_9 : decode cX8_putRight 9 = .ok (.lconst 0, 1) := by decide +kernel
theorem dX8_putRight_10 : decode cX8_putRight 10 = .ok (.lstore 10, 2) := by decide +kernel
theorem dX8_putRight_12 : decode cX8_putRight 12 = .ok (.lconst 0, 1) := by decide +kernel
theorem dX8_putRight_13 : decode cX8_putRight 13 = .ok (.lstore 12, 2) := by decide +kernel
theorem dX8_putRight_15 : decode cX8_putRight 15 = .ok (.iconst 0, 1) := by decide +kernel
theorem dX8_putRight_16 : decode cX8_putRight 16 = .ok (.istore 14, 2) := by decide +kernel
theorem dX8_putRight_18 : decode cX8_putRight 18 = .ok (.iload 14, 2) := by decide +kernel
theorem dX8_putRight_20 : decode cX8_putRight 20 = .ok (.aload_n 0, 1) := by decide +kernel
theorem dX8_putRight_21 : decode cX8_putRight 21 = .ok (.getfield 34, 3) := by decide +kernel
theorem dX8_putRight_24 : decode cX8_putRight 24 = .ok (.getfield 38, 3) := by decide +kernel
theorem dX8_putRight_27 : decode cX8_putRight 27 = .ok (.if_icmp .ge 104, 3) := by decide +kernel
theorem dX8_putRight_131 : decode cX8_putRight 131 = .ok (.ldc2_w 79, 3) := by decide +kernel
theorem dX8_putRight_134 : decode cX8_putRight 134 = .ok (.lload 4, 2) := by decide +kernel
theorem dX8_putRight_136 : decode cX8_putRight 136 = .ok (.lmul, 1) := by decide +kernel
theorem dX8_putRight_137 : decode cX8_putRight 137 = .ok (.lload 6, 2) := by decide +kernel
theorem dX8_putRight_139 : decode cX8_putRight 139 = .ok (.lmul, 1) := by decide +kernel
theorem dX8_putRight_140 : decode cX8_putRight 140 = .ok (.lload 4, 2) := by decide +kernel
theorem dX8_putRight_142 : decode cX8_putRight 142 = .ok (.lload 12, 2) := by decide +kernel
theorem dX8_putRight_144 : decode cX8_putRight 144 = .ok (.lmul, 1) := by decide +kernel
theorem dX8_putRight_145 : decode cX8_putRight 145 = .ok (.ladd, 1) := by decide +kernel
theorem dX8_putRight_146 : decode cX8_putRight 146 = .ok (.lload 10, 2) := by decide +kernel
theorem dX8_putRight_148 : decode cX8_putRight 148 = .ok (.ldc2_w 79, 3) := by decide +kernel
theorem dX8_putRight_151 : decode cX8_putRight 151 = .ok (.lload 6, 2) := by decide +kernel
theorem dX8_putRight_153 : decode cX8_putRight 153 = .ok (.lmul, 1) := by decide +kernel
theorem dX8_putRight_154 : decode cX8_putRight 154 = .ok (.lload 8, 2) := by decide +kernel
theorem dX8_putRight_156 : decode cX8_putRight 156 = .ok (.lsub, 1) := by decide +kernel
theorem dX8_putRight_157 : decode cX8_putRight 157 = .ok (.lmul, 1) := by decide +kernel
theorem dX8_putRight_158 : decode cX8_putRight 158 = .ok (.ladd, 1) := by decide +kernel
theorem dX8_putRight_159 : decode cX8_putRight 159 = .ok (.lstore 14, 2) := by decide +kernel
theorem dX8_putRight_161 : decode cX8_putRight 161 = .ok (.aload_n 3, 1) := by decide +kernel
theorem dX8_putRight_162 : decode cX8_putRight 162 = .ok (.lload 14, 2) := by decide +kernel
theorem dX8_putRight_164 : decode cX8_putRight 164 = .ok (.ldc2_w 79, 3) := by decide +kernel
theorem dX8_putRight_167 : decode cX8_putRight 167 = .ok (.lload 4, 2) := by decide +kernel
theorem dX8_putRight_169 : decode cX8_putRight 169 = .ok (.lmul, 1) := by decide +kernel
theorem dX8_putRight_170 : decode cX8_putRight 170 = .ok (.lload 4, 2) := by decide +kernel
theorem dX8_putRight_172 : decode cX8_putRight 172 = .ok (.lload 10, 2) := by decide +kernel
theorem dX8_putRight_174 : decode cX8_putRight 174 = .ok (.ladd, 1) := by decide +kernel
theorem dX8_putRight_175 : decode cX8_putRight 175 = .ok (.lmul, 1) := by decide +kernel
theorem dX8_putRight_176 : decode cX8_putRight 176 = .ok (.invokevirtual 55, 3) := by decide +kernel
theorem dX8_putRight_179 : decode cX8_putRight 179 = .ok (.return_, 1) := by decide +kernel
theorem dX8_weighHour_0 : decode cX8_weighHour 0 = .ok (.lconst 0, 1) := by decide +kernel
theorem dX8_weighHour_1 : decode cX8_weighHour 1 = .ok (.lstore 5, 2) := by decide +kernel
theorem dX8_weighHour_3 : decode cX8_weighHour 3 = .ok (.lconst 0, 1) := by decide +kernel
theorem dX8_weighHour_4 : decode cX8_weighHour 4 = .ok (.lstore 7, 2) := by decide +kernel
theorem dX8_weighHour_6 : decode cX8_weighHour 6 = .ok (.iload_n 2, 1) := by decide +kernel
theorem dX8_weighHour_7 : decode cX8_weighHour 7 = .ok (.istore 9, 2) := by decide +kernel
theorem dX8_weighHour_9 : decode cX8_weighHour 9 = .ok (.iload 9, 2) := by decide +kernel
theorem dX8_weighHour_11 : decode cX8_weighHour 11 = .ok (.iload_n 3, 1) := by decide +kernel
theorem dX8_weighHour_12 : decode cX8_weighHour 12 = .ok (.if_icmp .gt 169, 3) := by decide +kernel
theorem dX8_weighHour_15 : decode cX8_weighHour 15 = .ok (.iconst 0, 1) := by decide +kernel
theorem dX8_weighHour_16 : decode cX8_weighHour 16 = .ok (.istore 10, 2) := by decide +kernel
theorem dX8_weighHour_18 : decode cX8_weighHour 18 = .ok (.iload 10, 2) := by decide +kernel
theorem dX8_weighHour_20 : decode cX8_weighHour 20 = .ok (.iconst 4, 1) := by decide +kernel
theorem dX8_weighHour_21 : decode cX8_weighHour 21 = .ok (.if_icmp .ge 154, 3) := by decide +kernel
theorem dX8_weighHour_24 : decode cX8_weighHour 24 = .ok (.aload_n 0, 1) := by decide +kernel
theorem dX8_weighHour_25 : decode cX8_weighHour 25 = .ok (.getfield 34, 3) := by decide +kernel
theorem dX8_weighHour_28 : decode cX8_weighHour 28 = .ok (.iload 9, 2) := by decide +kernel
theorem dX8_weighHour_30 : decode cX8_weighHour 30 = .ok (.iload 10, 2) := by decide +kernel
theorem dX8_weighHour_32 : decode cX8_weighHour 32 = .ok (.invokevirtual 71, 3) := by decide +kernel
theorem dX8_weighHour_35 : decode cX8_weighHour 35 = .ok (.ifCond .le 140, 3) := by decide +kernel
theorem dX8_weighHour_175 : decode cX8_weighHour 175 = .ok (.iinc 9 1, 3) := by decide +kernel
theorem dX8_weighHour_178 : decode cX8_weighHour 178 = .ok (.goto (-169), 3) := by decide +kernel
theorem dX8_weighHour_181 : decode cX8_weighHour 181 = .ok (.aload 4, 2) := by decide +kernel
theorem dX8_weighHour_183 : decode cX8_weighHour 183 = .ok (.lload 5, 2) := by decide +kernel
theorem dX8_weighHour_185 : decode cX8_weighHour 185 = .ok (.lload 7, 2) := by decide +kernel
theorem dX8_weighHour_187 : decode cX8_weighHour 187 = .ok (.invokevirtual 55, 3) := by decide +kernel
theorem dX8_weighHour_190 : decode cX8_weighHour 190 = .ok (.return_, 1) := by decide +kernel
set_option maxHeartbeats 4000000 in
set_option maxRecDepth 100000 in
theorem c_Rclear (l : Launch) (D : va_G) (cI cJ cZ cB : ClassId) (cO : ClassId) (g : Nat → Nat) :
    CV l D [(cI, .int), (cJ, .long), (cZ, .boolean), (cB, .byte), (cO, .object "LuckLinks$World")] yX5_clear cX5_clear 1 ({ frames := 0, cells := 0, slots := 0, locals := 0 } : Room) [.ref (g 0)] [((g 0), .inr (5, [.ref (g 1), .ref (g 2), .int (0 : Int32)]))] (fun (u : Unit) => (True)) (fun (_ : Unit) => [((g 0), .inr (5, [.ref (g 1), .ref (g 2), .int (0 : Int32)]))]) := by
  intro sz
  refine body_of (y := yX5_clear) (cc := cX5_clear) (maxL := 1) (ret := none) (rm := ({ frames := 0, cells := 0, slots := 0, locals := 0 } : Room)) (wc := [((g 0), .inr (5, [.ref (g 1), .ref (g 2), .int (0 : Int32)]))]) (tys := [(cI, .int), (cJ, .long), (cZ, .boolean), (cB, .byte), (cO, .object "LuckLinks$World")]) (D := D) (sz := sz) (own := RX5) (av := [.ref (g 0)]) (Qc := fun A => va_Qv (fun (u : Unit) => (True)) (fun u t => Aft D A ((fun (_ : Unit) => [((g 0), .inr (5, [.ref (g 1), .ref (g 2), .int (0 : Int32)]))]) u) t) A) (by decide) rfl (Nat.le_of_ble_eq_true rfl) (fun p e s m below meth c A ls C hr hlk hin X hl => ?_)
  have hx := C.1
  have hb := C.2.1
  have hown := C.2.2.2.1
  have hts := C.2.2.2.2.1
  have hl : lv_has ls 1 [(0, .ref (g 0))] := hl
  show W p l e _ s m _ below meth c s.heap [] 0 0 (MQ below (va_Qv (fun (u : Unit) => (True)) (fun u t => Aft D A ((fun (_ : Unit) => [((g 0), .inr (5, [.ref (g 1), .ref (g 2), .int (0 : Int32)]))]) u) t) A) ([.ref (g 0)] : List Value).toArray s 0 0 A) (F0 m 0 ls [])
  have X : Wd D A s [((g 0), .inr (5, [.ref (g 1), .ref (g 2), .int (0 : Int32)]))] s.heap [] := X
  obtain ⟨H, locs, eH, eL⟩ : ∃ H locs, H = s.heap ∧ locs = ([] : List Loc) := ⟨_, _, rfl, rfl⟩
  rw [← eH, ← eL] at X ⊢
  clear eH eL
  refine lv_aload_n hx hb dX5_clear_0 rfl (lv_at hl 0 rfl) ?_
  refine lv_iconst (v := (0 : Int32)) hx hb dX5_clear_1 (by decide) ?_
  refine x_put (own := RX5) (T := TX5) C X 0 rfl rfl 2 (by decide) k_7_3 rfl rfl rfl (ty := .int) (v := .int (0 : Int32)) (by decide +kernel) rfl rfl (Nat.le_of_ble_eq_true rfl) dX5_clear_2 (fun H locs X => ?_)
  have X : Wd D A s [((g 0), .inr (5, [.ref (g 1), .ref (g 2), .int (0 : Int32)]))] H locs := X
  exact x_vret C X hr hlk (()) [0] (by decide) rfl (trivial) (Nat.le_of_ble_eq_true rfl) (Nat.le_of_ble_eq_true rfl) dX5_clear_5
set_option maxHeartbeats 4000000 in
set_option maxRecDepth 100000 in
theorem c_Rsize (l : Launch) (D : va_G) (cI cJ cZ cB : ClassId) (cO : ClassId) (g : Nat → Nat) :
    CI l D [(cI, .int), (cJ, .long), (cZ, .boolean), (cB, .byte), (cO, .object "LuckLinks$World")] yX5_size cX5_size 1 (some .int) ({ frames := 0, cells := 0, slots := 0, locals := 0 } : Room) [.ref (g 0)] [((g 0), .inr (5, [.ref (g 1), .ref (g 2), .int (0 : Int32)]))] (fun (r : Int32) (u : Unit) => (r = (0 : Int32) ∧ True)) (fun (_ : Unit) => [((g 0), .inr (5, [.ref (g 1), .ref (g 2), .int (0 : Int32)]))]) := by
  intro sz
  refine body_of (y := yX5_size) (cc := cX5_size) (maxL := 1) (ret := (some .int)) (rm := ({ frames := 0, cells := 0, slots := 0, locals := 0 } : Room)) (wc := [((g 0), .inr (5, [.ref (g 1), .ref (g 2), .int (0 : Int32)]))]) (tys := [(cI, .int), (cJ, .long), (cZ, .boolean), (cB, .byte), (cO, .object "LuckLinks$World")]) (D := D) (sz := sz) (own := RX5) (av := [.ref (g 0)]) (Qc := fun A => va_Qi (fun (r : Int32) (u : Unit) => (r = (0 : Int32) ∧ True)) (fun u t => Aft D A ((fun (_ : Unit) => [((g 0), .inr (5, [.ref (g 1), .ref (g 2), .int (0 : Int32)]))]) u) t) A) (by decide) rfl (Nat.le_of_ble_eq_true rfl) (fun p e s m below meth c A ls C hr hlk hin X hl => ?_)
  have hx := C.1
  have hb := C.2.1
  have hown := C.2.2.2.1
  have hts := C.2.2.2.2.1
  have hl : lv_has ls 1 [(0, .ref (g 0))] := hl
  show W p l e _ s m _ below meth c s.heap [] 0 0 (MQ below (va_Qi (fun (r : Int32) (u : Unit) => (r = (0 : Int32) ∧ True)) (fun u t => Aft D A ((fun (_ : Unit) => [((g 0), .inr (5, [.ref (g 1), .ref (g 2), .int (0 : Int32)]))]) u) t) A) ([.ref (g 0)] : List Value).toArray s 0 0 A) (F0 m 0 ls [])
  have X : Wd D A s [((g 0), .inr (5, [.ref (g 1), .ref (g 2), .int (0 : Int32)]))] s.heap [] := X
  obtain ⟨H, locs, eH, eL⟩ : ∃ H locs, H = s.heap ∧ locs = ([] : List Loc) := ⟨_, _, rfl, rfl⟩
  rw [← eH, ← eL] at X ⊢
  clear eH eL
  refine lv_aload_n hx hb dX5_size_0 rfl (lv_at hl 0 rfl) ?_
  refine x_get (own := RX5) (T := TX5) C X 0 rfl rfl 2 (by decide) k_7_3 rfl rfl (v := .int (0 : Int32)) rfl dX5_size_1 ?_
  exact x_iret C X hr hlk (v := (0 : Int32)) (by first | rfl | decide) (()) [0] (by decide) rfl (⟨rfl, trivial⟩) (Nat.le_of_ble_eq_true rfl) (Nat.le_of_ble_eq_true rfl) dX5_size_4
set_option maxHeartbeats 4000000 in
set_option maxRecDepth 100000 in
theorem c_leadersOf (l : Launch) (D : va_G) (cI cJ cZ cB : ClassId) (cO : ClassId) (g w : Nat → Nat) (wk dy kk what : Int32) :
    CI l D [(cI, .int), (cJ, .long), (cZ, .boolean), (cB, .byte), (cO, .object "LuckLinks$World")] yX7_leadersOf cX7_leadersOf 11 (some .int) ({ frames := 1, cells := 0, slots := 0, locals := 20 } : Room) [.ref (g 0), .int wk, .int dy, .int kk, .int what] [((g 0), .inr (7, [.ref (w 0), .ref (g 1), .ref (g 4)])), ((g 1), .inr (5, [.ref (g 2), .ref (g 3), .int (0 : Int32)])), ((w 0), .inr (10, [.int (0 : Int32), .ref (w 1), .int (0 : Int32), .ref (w 2), .ref (w 3), .int (0 : Int32), .ref (w 4), .ref (w 5), .ref (w 6), .ref (w 7), .ref (w 8), .long (1 : Int64)]))] (fun (r : Int32) (u : Unit) => (r = (0 : Int32) ∧ True)) (fun (_ : Unit) => [((g 0), .inr (7, [.ref (w 0), .ref (g 1), .ref (g 4)])), ((g 1), .inr (5, [.ref (g 2), .ref (g 3), .int (0 : Int32)])), ((w 0), .inr (10, [.int (0 : Int32), .ref (w 1), .int (0 : Int32), .ref (w 2), .ref (w 3), .int (0 : Int32), .ref (w 4), .ref (w 5), .ref (w 6), .ref (w 7), .ref (w 8), .long (1 : Int64)]))]) := by
  intro sz
  refine body_of (y := yX7_leadersOf) (cc := cX7_leadersOf) (maxL := 11) (ret := (some .int)) (rm := ({ frames := 1, cells := 0, slots := 0, locals := 20 } : Room)) (wc := [((g 0), .inr (7, [.ref (w 0), .ref (g 1), .ref (g 4)])), ((g 1), .inr (5, [.ref (g 2), .ref (g 3), .int (0 : Int32)])), ((w 0), .inr (10, [.int (0 : Int32), .ref (w 1), .int (0 : Int32), .ref (w 2), .ref (w 3), .int (0 : Int32), .ref (w 4), .ref (w 5), .ref (w 6), .ref (w 7), .ref (w 8), .long (1 : Int64)]))]) (tys := [(cI, .int), (cJ, .long), (cZ, .boolean), (cB, .byte), (cO, .object "LuckLinks$World")]) (D := D) (sz := sz) (own := RX7) (av := [.ref (g 0), .int wk, .int dy, .int kk, .int what]) (Qc := fun A => va_Qi (fun (r : Int32) (u : Unit) => (r = (0 : Int32) ∧ True)) (fun u t => Aft D A ((fun (_ : Unit) => [((g 0), .inr (7, [.ref (w 0), .ref (g 1), .ref (g 4)])), ((g 1), .inr (5, [.ref (g 2), .ref (g 3), .int (0 : Int32)])), ((w 0), .inr (10, [.int (0 : Int32), .ref (w 1), .int (0 : Int32), .ref (w 2), .ref (w 3), .int (0 : Int32), .ref (w 4), .ref (w 5), .ref (w 6), .ref (w 7), .ref (w 8), .long (1 : Int64)]))]) u) t) A) (by decide) rfl (Nat.le_of_ble_eq_true rfl) (fun p e s m below meth c A ls C hr hlk hin X hl => ?_)
  have hx := C.1
  have hb := C.2.1
  have hown := C.2.2.2.1
  have hts := C.2.2.2.2.1
  have hl : lv_has ls 11 [(0, .ref (g 0)), (1, .int wk), (2, .int dy), (3, .int kk), (4, .int what)] := hl
  show W p l e _ s m _ below meth c s.heap [] 0 0 (MQ below (va_Qi (fun (r : Int32) (u : Unit) => (r = (0 : Int32) ∧ True)) (fun u t => Aft D A ((fun (_ : Unit) => [((g 0), .inr (7, [.ref (w 0), .ref (g 1), .ref (g 4)])), ((g 1), .inr (5, [.ref (g 2), .ref (g 3), .int (0 : Int32)])), ((w 0), .inr (10, [.int (0 : Int32), .ref (w 1), .int (0 : Int32), .ref (w 2), .ref (w 3), .int (0 : Int32), .ref (w 4), .ref (w 5), .ref (w 6), .ref (w 7), .ref (w 8), .long (1 : Int64)]))]) u) t) A) ([.ref (g 0), .int wk, .int dy, .int kk, .int what] : List Value).toArray s 0 0 A) (F0 m 0 ls [])
  have X : Wd D A s [((g 0), .inr (7, [.ref (w 0), .ref (g 1), .ref (g 4)])), ((g 1), .inr (5, [.ref (g 2), .ref (g 3), .int (0 : Int32)])), ((w 0), .inr (10, [.int (0 : Int32), .ref (w 1), .int (0 : Int32), .ref (w 2), .ref (w 3), .int (0 : Int32), .ref (w 4), .ref (w 5), .ref (w 6), .ref (w 7), .ref (w 8), .long (1 : Int64)]))] s.heap [] := X
  obtain ⟨H, locs, eH, eL⟩ : ∃ H locs, H = s.heap ∧ locs = ([] : List Loc) := ⟨_, _, rfl, rfl⟩
  rw [← eH, ← eL] at X ⊢
  clear eH eL
  refine lv_aload_n hx hb dX7_leadersOf_0 rfl (lv_at hl 0 rfl) ?_
  refine x_get (own := RX7) (T := TX7) C X 0 rfl rfl 1 (by decide) k_7_9 rfl rfl (v := .ref (g 1)) rfl dX7_leadersOf_1 ?_
  refine x_cVv (own := RX7) (wr := [((g 0), .inr (7, [.ref (w 0), .ref (g 1), .ref (g 4)])), ((w 0), .inr (10, [.int (0 : Int32), .ref (w 1), .int (0 : Int32), .ref (w 2), .ref (w 3), .int (0 : Int32), .ref (w 4), .ref (w 5), .ref (w 6), .ref (w 7), .ref (w 8), .long (1 : Int64)]))]) (As := []) C X hl.1 (c_Rclear l D cI cJ cZ cB cO (fun k => g (k + 1))) [1] [0, 2] ⟨rfl, rfl, by decide, by decide, by decide⟩ (qb := 0) rfl rfl k_40_0 k_33_13 k_33_14 k_6_16 k_33_15 (n := 0) (by decide +kernel) ⟨Nat.le_of_ble_eq_true rfl, Nat.le_of_ble_eq_true rfl⟩ rfl rfl (Nat.le_of_ble_eq_true rfl) dX7_leadersOf_4 ⟨Nat.le_of_ble_eq_true rfl, Nat.le_of_ble_eq_true rfl⟩ (fun u_1 H locs w_3 X => ?_)
  have X : Wd D A s [((g 0), .inr (7, [.ref (w 0), .ref (g 1), .ref (g 4)])), ((w 0), .inr (10, [.int (0 : Int32), .ref (w 1), .int (0 : Int32), .ref (w 2), .ref (w 3), .int (0 : Int32), .ref (w 4), .ref (w 5), .ref (w 6), .ref (w 7), .ref (w 8), .long (1 : Int64)])), ((g 1), .inr (5, [.ref (g 2), .ref (g 3), .int (0 : Int32)]))] H locs := X
  refine W.widen (k := 0) (n := 0) (Nat.le_of_ble_eq_true rfl) (Nat.le_of_ble_eq_true rfl) ?_
  refine lv_iload hx hb dX7_leadersOf_7 (lv_at hl 4 rfl) ?_
  refine lv_if_ne (tgt := 16) hx hb dX7_leadersOf_9 (by decide) (fun c_4 => ?_) (fun c_4 => ?_)
  · have fc_4 : (what).toInt ≠ (0 : Int) := i_ne c_4
    refine lv_iload_n hx hb dX7_leadersOf_16 rfl (lv_at hl 2 rfl) ?_
    refine lv_iconst (v := (1 : Int32)) hx hb dX7_leadersOf_17 (by decide) ?_
    refine lv_iadd hx hb dX7_leadersOf_18 ?_
    refine lv_istore (lv' := [(5, .int (dy + (1 : Int32))), (0, .ref (g 0)), (1, .int wk), (2, .int dy), (3, .int kk), (4, .int what)]) hx hb dX7_leadersOf_19 hl (by decide) rfl (fun ls hl => ?_)
    refine lv_iconst (v := (0 : Int32)) hx hb dX7_leadersOf_21 (by decide) ?_
    refine lv_istore (lv' := [(6, .int (0 : Int32)), (5, .int (dy + (1 : Int32))), (0, .ref (g 0)), (1, .int wk), (2, .int dy), (3, .int kk), (4, .int what)]) hx hb dX7_leadersOf_22 hl (by decide) rfl (fun ls hl => ?_)
    refine lv_iconst (v := (0 : Int32)) hx hb dX7_leadersOf_24 (by decide) ?_
    refine lv_istore (lv' := [(7, .int (0 : Int32)), (6, .int (0 : Int32)), (5, .int (dy + (1 : Int32))), (0, .ref (g 0)), (1, .int wk), (2, .int dy), (3, .int kk), (4, .int what)]) hx hb dX7_leadersOf_25 hl (by decide) rfl (fun ls hl => ?_)
    refine lv_iload hx hb dX7_leadersOf_27 (lv_at hl 0 rfl) ?_
    refine lv_aload_n hx hb dX7_leadersOf_29 rfl (lv_at hl 3 rfl) ?_
    refine x_get (own := RX7) (T := TX7) C X 0 rfl rfl 0 (by decide) k_7_11 rfl rfl (v := .ref (w 0)) rfl dX7_leadersOf_30 ?_
    refine x_get (own := RX7) (T := TX10) C X 1 rfl rfl 0 (by decide) k_39_23 rfl rfl (v := .int (0 : Int32)) rfl dX7_leadersOf_33 ?_
    refine lv_icmp_ge (tgt := 99) hx hb dX7_leadersOf_36 (by decide) (fun _ => ?_) (fun c0 => absurd (by decide) c0)
    refine lv_aload_n hx hb dX7_leadersOf_99 rfl (lv_at hl 3 rfl) ?_
    refine x_get (own := RX7) (T := TX7) C X 0 rfl rfl 1 (by decide) k_7_9 rfl rfl (v := .ref (g 1)) rfl dX7_leadersOf_100 ?_
    refine x_cV (own := RX7) (wr := [((g 0), .inr (7, [.ref (w 0), .ref (g 1), .ref (g 4)])), ((w 0), .inr (10, [.int (0 : Int32), .ref (w 1), .int (0 : Int32), .ref (w 2), .ref (w 3), .int (0 : Int32), .ref (w 4), .ref (w 5), .ref (w 6), .ref (w 7), .ref (w 8), .long (1 : Int64)]))]) (As := []) C X hl.1 (c_Rsize l D cI cJ cZ cB cO (fun k => g (k + 1))) [2] [0, 1] ⟨rfl, rfl, by decide, by decide, by decide⟩ (qb := 0) rfl rfl k_41_14 k_34_1 k_34_2 k_6_16 k_34_3 (n := 0) (by decide +kernel) ⟨Nat.le_of_ble_eq_true rfl, Nat.le_of_ble_eq_true rfl⟩ rfl rfl (Nat.le_of_ble_eq_true rfl) dX7_leadersOf_103 ⟨Nat.le_of_ble_eq_true rfl, Nat.le_of_ble_eq_true rfl⟩ (fun r_6 u_5 H locs w_7 X => ?_)
    have X : Wd D A s [((g 0), .inr (7, [.ref (w 0), .ref (g 1), .ref (g 4)])), ((w 0), .inr (10, [.int (0 : Int32), .ref (w 1), .int (0 : Int32), .ref (w 2), .ref (w 3), .int (0 : Int32), .ref (w 4), .ref (w 5), .ref (w 6), .ref (w 7), .ref (w 8), .long (1 : Int64)])), ((g 1), .inr (5, [.ref (g 2), .ref (g 3), .int (0 : Int32)]))] H locs := X
    refine W.widen (k := 0) (n := 0) (Nat.le_of_ble_eq_true rfl) (Nat.le_of_ble_eq_true rfl) ?_
    obtain ⟨rfl, fw_7⟩ : r_6 = (0 : Int32) ∧ True := w_7
    refine lv_istore (lv' := [(7, .int (0 : Int32)), (6, .int (0 : Int32)), (5, .int (dy + (1 : Int32))), (0, .ref (g 0)), (1, .int wk), (2, .int dy), (3, .int kk), (4, .int what)]) hx hb dX7_leadersOf_106 hl (by decide) rfl (fun ls hl => ?_)
    refine lv_iload hx hb dX7_leadersOf_108 (lv_at hl 0 rfl) ?_
    refine lv_iconst (v := (2 : Int32)) hx hb dX7_leadersOf_110 (by decide) ?_
    refine lv_icmp_ge (tgt := 116) hx hb dX7_leadersOf_111 (by decide) (fun c0 => absurd c0 (by decide)) (fun _ => ?_)
    refine lv_iconst (v := (0 : Int32)) hx hb dX7_leadersOf_114 (by decide) ?_
    exact x_iret C X hr hlk (v := (0 : Int32)) (by first | rfl | decide) (()) [0, 2, 1] (by decide) rfl (⟨rfl, trivial⟩) (Nat.le_of_ble_eq_true rfl) (Nat.le_of_ble_eq_true rfl) dX7_leadersOf_115
  · have fc_4 : (what).toInt = (0 : Int) := i_eq c_4
    refine lv_iload_n hx hb dX7_leadersOf_12 rfl (lv_at hl 2 rfl) ?_
    refine lv_goto (tgt := 19) hx hb dX7_leadersOf_13 (by decide) ?_
    refine lv_istore (lv' := [(5, .int dy), (0, .ref (g 0)), (1, .int wk), (2, .int dy), (3, .int kk), (4, .int what)]) hx hb dX7_leadersOf_19 hl (by decide) rfl (fun ls hl => ?_)
    refine lv_iconst (v := (0 : Int32)) hx hb dX7_leadersOf_21 (by decide) ?_
    refine lv_istore (lv' := [(6, .int (0 : Int32)), (5, .int dy), (0, .ref (g 0)), (1, .int wk), (2, .int dy), (3, .int kk), (4, .int what)]) hx hb dX7_leadersOf_22 hl (by decide) rfl (fun ls hl => ?_)
    refine lv_iconst (v := (0 : Int32)) hx hb dX7_leadersOf_24 (by decide) ?_
    refine lv_istore (lv' := [(7, .int (0 : Int32)), (6, .int (0 : Int32)), (5, .int dy), (0, .ref (g 0)), (1, .int wk), (2, .int dy), (3, .int kk), (4, .int what)]) hx hb dX7_leadersOf_25 hl (by decide) rfl (fun ls hl => ?_)
    refine lv_iload hx hb dX7_leadersOf_27 (lv_at hl 0 rfl) ?_
    refine lv_aload_n hx hb dX7_leadersOf_29 rfl (lv_at hl 3 rfl) ?_
    refine x_get (own := RX7) (T := TX7) C X 0 rfl rfl 0 (by decide) k_7_11 rfl rfl (v := .ref (w 0)) rfl dX7_leadersOf_30 ?_
    refine x_get (own := RX7) (T := TX10) C X 1 rfl rfl 0 (by decide) k_39_23 rfl rfl (v := .int (0 : Int32)) rfl dX7_leadersOf_33 ?_
    refine lv_icmp_ge (tgt := 99) hx hb dX7_leadersOf_36 (by decide) (fun _ => ?_) (fun c0 => absurd (by decide) c0)
    refine lv_aload_n hx hb dX7_leadersOf_99 rfl (lv_at hl 3 rfl) ?_
    refine x_get (own := RX7) (T := TX7) C X 0 rfl rfl 1 (by decide) k_7_9 rfl rfl (v := .ref (g 1)) rfl dX7_leadersOf_100 ?_
    refine x_cV (own := RX7) (wr := [((g 0), .inr (7, [.ref (w 0), .ref (g 1), .ref (g 4)])), ((w 0), .inr (10, [.int (0 : Int32), .ref (w 1), .int (0 : Int32), .ref (w 2), .ref (w 3), .int (0 : Int32), .ref (w 4), .ref (w 5), .ref (w 6), .ref (w 7), .ref (w 8), .long (1 : Int64)]))]) (As := []) C X hl.1 (c_Rsize l D cI cJ cZ cB cO (fun k => g (k + 1))) [2] [0, 1] ⟨rfl, rfl, by decide, by decide, by decide⟩ (qb := 0) rfl rfl k_41_14 k_34_1 k_34_2 k_6_16 k_34_3 (n := 0) (by decide +kernel) ⟨Nat.le_of_ble_eq_true rfl, Nat.le_of_ble_eq_true rfl⟩ rfl rfl (Nat.le_of_ble_eq_true rfl) dX7_leadersOf_103 ⟨Nat.le_of_ble_eq_true rfl, Nat.le_of_ble_eq_true rfl⟩ (fun r_9 u_8 H locs w_10 X => ?_)
    have X : Wd D A s [((g 0), .inr (7, [.ref (w 0), .ref (g 1), .ref (g 4)])), ((w 0), .inr (10, [.int (0 : Int32), .ref (w 1), .int (0 : Int32), .ref (w 2), .ref (w 3), .int (0 : Int32), .ref (w 4), .ref (w 5), .ref (w 6), .ref (w 7), .ref (w 8), .long (1 : Int64)])), ((g 1), .inr (5, [.ref (g 2), .ref (g 3), .int (0 : Int32)]))] H locs := X
    refine W.widen (k := 0) (n := 0) (Nat.le_of_ble_eq_true rfl) (Nat.le_of_ble_eq_true rfl) ?_
    obtain ⟨rfl, fw_10⟩ : r_9 = (0 : Int32) ∧ True := w_10
    refine lv_istore (lv' := [(7, .int (0 : Int32)), (6, .int (0 : Int32)), (5, .int dy), (0, .ref (g 0)), (1, .int wk), (2, .int dy), (3, .int kk), (4, .int what)]) hx hb dX7_leadersOf_106 hl (by decide) rfl (fun ls hl => ?_)
    refine lv_iload hx hb dX7_leadersOf_108 (lv_at hl 0 rfl) ?_
    refine lv_iconst (v := (2 : Int32)) hx hb dX7_leadersOf_110 (by decide) ?_
    refine lv_icmp_ge (tgt := 116) hx hb dX7_leadersOf_111 (by decide) (fun c0 => absurd c0 (by decide)) (fun _ => ?_)
    refine lv_iconst (v := (0 : Int32)) hx hb dX7_leadersOf_114 (by decide) ?_
    exact x_iret C X hr hlk (v := (0 : Int32)) (by first | rfl | decide) (()) [0, 2, 1] (by decide) rfl (⟨rfl, trivial⟩) (Nat.le_of_ble_eq_true rfl) (Nat.le_of_ble_eq_true rfl) dX7_leadersOf_115
set_option maxHeartbeats 4000000 in
set_option maxRecDepth 100000 in
theorem c_lastDayOf (l : Launch) (D : va_G) (cI cJ cZ cB : ClassId) (cO : ClassId) (g w : Nat → Nat) (wk : Int32) :
    CI l D [(cI, .int), (cJ, .long), (cZ, .boolean), (cB, .byte), (cO, .object "LuckLinks$World")] yX7_lastDayOf cX7_lastDayOf 4 (some .int) ({ frames := 1, cells := 0, slots := 0, locals := 23 } : Room) [.ref (g 0), .int wk] [((g 0), .inr (7, [.ref (w 0), .ref (g 1), .ref (g 4)])), ((w 0), .inr (10, [.int (0 : Int32), .ref (w 1), .int (0 : Int32), .ref (w 2), .ref (w 3), .int (0 : Int32), .ref (w 4), .ref (w 5), .ref (w 6), .ref (w 7), .ref (w 8), .long (1 : Int64)])), ((w 6), .inl (cI, 160, .inl (fun _ => (0 : Int32))))] (fun (r : Int32) (u : Unit) => (r = (-1 : Int32) ∧ True)) (fun (_ : Unit) => [((g 0), .inr (7, [.ref (w 0), .ref (g 1), .ref (g 4)])), ((w 0), .inr (10, [.int (0 : Int32), .ref (w 1), .int (0 : Int32), .ref (w 2), .ref (w 3), .int (0 : Int32), .ref (w 4), .ref (w 5), .ref (w 6), .ref (w 7), .ref (w 8), .long (1 : Int64)])), ((w 6), .inl (cI, 160, .inl (fun _ => (0 : Int32))))]) := by
  intro sz
  refine body_of (y := yX7_lastDayOf) (cc := cX7_lastDayOf) (maxL := 4) (ret := (some .int)) (rm := ({ frames := 1, cells := 0, slots := 0, locals := 23 } : Room)) (wc := [((g 0), .inr (7, [.ref (w 0), .ref (g 1), .ref (g 4)])), ((w 0), .inr (10, [.int (0 : Int32), .ref (w 1), .int (0 : Int32), .ref (w 2), .ref (w 3), .int (0 : Int32), .ref (w 4), .ref (w 5), .ref (w 6), .ref (w 7), .ref (w 8), .long (1 : Int64)])), ((w 6), .inl (cI, 160, .inl (fun _ => (0 : Int32))))]) (tys := [(cI, .int), (cJ, .long), (cZ, .boolean), (cB, .byte), (cO, .object "LuckLinks$World")]) (D := D) (sz := sz) (own := RX7) (av := [.ref (g 0), .int wk]) (Qc := fun A => va_Qi (fun (r : Int32) (u : Unit) => (r = (-1 : Int32) ∧ True)) (fun u t => Aft D A ((fun (_ : Unit) => [((g 0), .inr (7, [.ref (w 0), .ref (g 1), .ref (g 4)])), ((w 0), .inr (10, [.int (0 : Int32), .ref (w 1), .int (0 : Int32), .ref (w 2), .ref (w 3), .int (0 : Int32), .ref (w 4), .ref (w 5), .ref (w 6), .ref (w 7), .ref (w 8), .long (1 : Int64)])), ((w 6), .inl (cI, 160, .inl (fun _ => (0 : Int32))))]) u) t) A) (by decide) rfl (Nat.le_of_ble_eq_true rfl) (fun p e s m below meth c A ls C hr hlk hin X hl => ?_)
  have hx := C.1
  have hb := C.2.1
  have hown := C.2.2.2.1
  have hts := C.2.2.2.2.1
  have hl : lv_has ls 4 [(0, .ref (g 0)), (1, .int wk)] := hl
  show W p l e _ s m _ below meth c s.heap [] 0 0 (MQ below (va_Qi (fun (r : Int32) (u : Unit) => (r = (-1 : Int32) ∧ True)) (fun u t => Aft D A ((fun (_ : Unit) => [((g 0), .inr (7, [.ref (w 0), .ref (g 1), .ref (g 4)])), ((w 0), .inr (10, [.int (0 : Int32), .ref (w 1), .int (0 : Int32), .ref (w 2), .ref (w 3), .int (0 : Int32), .ref (w 4), .ref (w 5), .ref (w 6), .ref (w 7), .ref (w 8), .long (1 : Int64)])), ((w 6), .inl (cI, 160, .inl (fun _ => (0 : Int32))))]) u) t) A) ([.ref (g 0), .int wk] : List Value).toArray s 0 0 A) (F0 m 0 ls [])
  have X : Wd D A s [((g 0), .inr (7, [.ref (w 0), .ref (g 1), .ref (g 4)])), ((w 0), .inr (10, [.int (0 : Int32), .ref (w 1), .int (0 : Int32), .ref (w 2), .ref (w 3), .int (0 : Int32), .ref (w 4), .ref (w 5), .ref (w 6), .ref (w 7), .ref (w 8), .long (1 : Int64)])), ((w 6), .inl (cI, 160, .inl (fun _ => (0 : Int32))))] s.heap [] := X
  obtain ⟨H, locs, eH, eL⟩ : ∃ H locs, H = s.heap ∧ locs = ([] : List Loc) := ⟨_, _, rfl, rfl⟩
  rw [← eH, ← eL] at X ⊢
  clear eH eL
  refine lv_iconst (v := (-1 : Int32)) hx hb dX7_lastDayOf_0 (by decide) ?_
  refine lv_istore_n (lv' := [(2, .int (-1 : Int32)), (0, .ref (g 0)), (1, .int wk)]) hx hb dX7_lastDayOf_1 rfl hl (by decide) rfl (fun ls hl => ?_)
  refine lv_iconst (v := (0 : Int32)) hx hb dX7_lastDayOf_2 (by decide) ?_
  refine lv_istore_n (lv' := [(3, .int (0 : Int32)), (2, .int (-1 : Int32)), (0, .ref (g 0)), (1, .int wk)]) hx hb dX7_lastDayOf_3 rfl hl (by decide) rfl (fun ls hl => ?_)
  refine lv_iload_n hx hb dX7_lastDayOf_4 rfl (lv_at hl 0 rfl) ?_
  refine lv_iconst (v := (4 : Int32)) hx hb dX7_lastDayOf_5 (by decide) ?_
  refine lv_icmp_ge (tgt := 29) hx hb dX7_lastDayOf_6 (by decide) (fun c0 => absurd c0 (by decide)) (fun _ => ?_)
  refine lv_aload_n hx hb dX7_lastDayOf_9 rfl (lv_at hl 2 rfl) ?_
  refine x_get (own := RX7) (T := TX7) C X 0 rfl rfl 0 (by decide) k_7_11 rfl rfl (v := .ref (w 0)) rfl dX7_lastDayOf_10 ?_
  refine lv_iload_n hx hb dX7_lastDayOf_13 rfl (lv_at hl 3 rfl) ?_
  refine lv_iload_n hx hb dX7_lastDayOf_14 rfl (lv_at hl 0 rfl) ?_
  refine x_cV (own := RX7) (wr := [((g 0), .inr (7, [.ref (w 0), .ref (g 1), .ref (g 4)]))]) (As := [.int wk, .int (0 : Int32)]) C X hl.1 (c_roundsOn l D cI cJ cZ cB cO w wk (0 : Int32)) [1, 2] [0] ⟨rfl, rfl, by decide, by decide, by decide⟩ (qb := 0) rfl rfl k_39_17 k_31_11 k_31_12 k_1_14 k_31_13 (n := 2) (by decide +kernel) ⟨Nat.le_of_ble_eq_true rfl, Nat.le_of_ble_eq_true rfl⟩ rfl rfl (Nat.le_of_ble_eq_true rfl) dX7_lastDayOf_15 ⟨Nat.le_of_ble_eq_true rfl, Nat.le_of_ble_eq_true rfl⟩ (fun r_2 u_1 H locs w_3 X => ?_)
  have X : Wd D A s [((g 0), .inr (7, [.ref (w 0), .ref (g 1), .ref (g 4)])), ((w 0), .inr (10, [.int (0 : Int32), .ref (w 1), .int (0 : Int32), .ref (w 2), .ref (w 3), .int (0 : Int32), .ref (w 4), .ref (w 5), .ref (w 6), .ref (w 7), .ref (w 8), .long (1 : Int64)])), ((w 6), .inl (cI, 160, .inl (fun _ => (0 : Int32))))] H locs := X
  refine W.widen (k := 0) (n := 0) (Nat.le_of_ble_eq_true rfl) (Nat.le_of_ble_eq_true rfl) ?_
  obtain ⟨rfl, fw_3⟩ : r_2 = (0 : Int32) ∧ True := w_3
  refine lv_if_le (tgt := 23) hx hb dX7_lastDayOf_18 (by decide) (fun _ => ?_) (fun c0 => absurd (by decide) c0)
  refine lv_iinc (v := (1 : Int32)) (lv' := [(3, .int (1 : Int32)), (2, .int (-1 : Int32)), (0, .ref (g 0)), (1, .int wk)]) hx hb dX7_lastDayOf_23 hl (k := 0) rfl (by decide) (by decide) rfl (fun ls hl => ?_)
  refine lv_goto (tgt := 4) hx hb dX7_lastDayOf_26 (by decide) ?_
  refine lv_iload_n hx hb dX7_lastDayOf_4 rfl (lv_at hl 0 rfl) ?_
  refine lv_iconst (v := (4 : Int32)) hx hb dX7_lastDayOf_5 (by decide) ?_
  refine lv_icmp_ge (tgt := 29) hx hb dX7_lastDayOf_6 (by decide) (fun c0 => absurd c0 (by decide)) (fun _ => ?_)
  refine lv_aload_n hx hb dX7_lastDayOf_9 rfl (lv_at hl 2 rfl) ?_
  refine x_get (own := RX7) (T := TX7) C X 0 rfl rfl 0 (by decide) k_7_11 rfl rfl (v := .ref (w 0)) rfl dX7_lastDayOf_10 ?_
  refine lv_iload_n hx hb dX7_lastDayOf_13 rfl (lv_at hl 3 rfl) ?_
  refine lv_iload_n hx hb dX7_lastDayOf_14 rfl (lv_at hl 0 rfl) ?_
  refine x_cV (own := RX7) (wr := [((g 0), .inr (7, [.ref (w 0), .ref (g 1), .ref (g 4)]))]) (As := [.int wk, .int (1 : Int32)]) C X hl.1 (c_roundsOn l D cI cJ cZ cB cO w wk (1 : Int32)) [1, 2] [0] ⟨rfl, rfl, by decide, by decide, by decide⟩ (qb := 0) rfl rfl k_39_17 k_31_11 k_31_12 k_1_14 k_31_13 (n := 2) (by decide +kernel) ⟨Nat.le_of_ble_eq_true rfl, Nat.le_of_ble_eq_true rfl⟩ rfl rfl (Nat.le_of_ble_eq_true rfl) dX7_lastDayOf_15 ⟨Nat.le_of_ble_eq_true rfl, Nat.le_of_ble_eq_true rfl⟩ (fun r_5 u_4 H locs w_6 X => ?_)
  have X : Wd D A s [((g 0), .inr (7, [.ref (w 0), .ref (g 1), .ref (g 4)])), ((w 0), .inr (10, [.int (0 : Int32), .ref (w 1), .int (0 : Int32), .ref (w 2), .ref (w 3), .int (0 : Int32), .ref (w 4), .ref (w 5), .ref (w 6), .ref (w 7), .ref (w 8), .long (1 : Int64)])), ((w 6), .inl (cI, 160, .inl (fun _ => (0 : Int32))))] H locs := X
  refine W.widen (k := 0) (n := 0) (Nat.le_of_ble_eq_true rfl) (Nat.le_of_ble_eq_true rfl) ?_
  obtain ⟨rfl, fw_6⟩ : r_5 = (0 : Int32) ∧ True := w_6
  refine lv_if_le (tgt := 23) hx hb dX7_lastDayOf_18 (by decide) (fun _ => ?_) (fun c0 => absurd (by decide) c0)
  refine lv_iinc (v := (2 : Int32)) (lv' := [(3, .int (2 : Int32)), (2, .int (-1 : Int32)), (0, .ref (g 0)), (1, .int wk)]) hx hb dX7_lastDayOf_23 hl (k := 0) rfl (by decide) (by decide) rfl (fun ls hl => ?_)
  refine lv_goto (tgt := 4) hx hb dX7_lastDayOf_26 (by decide) ?_
  refine lv_iload_n hx hb dX7_lastDayOf_4 rfl (lv_at hl 0 rfl) ?_
  refine lv_iconst (v := (4 : Int32)) hx hb dX7_lastDayOf_5 (by decide) ?_
  refine lv_icmp_ge (tgt := 29) hx hb dX7_lastDayOf_6 (by decide) (fun c0 => absurd c0 (by decide)) (fun _ => ?_)
  refine lv_aload_n hx hb dX7_lastDayOf_9 rfl (lv_at hl 2 rfl) ?_
  refine x_get (own := RX7) (T := TX7) C X 0 rfl rfl 0 (by decide) k_7_11 rfl rfl (v := .ref (w 0)) rfl dX7_lastDayOf_10 ?_
  refine lv_iload_n hx hb dX7_lastDayOf_13 rfl (lv_at hl 3 rfl) ?_
  refine lv_iload_n hx hb dX7_lastDayOf_14 rfl (lv_at hl 0 rfl) ?_
  refine x_cV (own := RX7) (wr := [((g 0), .inr (7, [.ref (w 0), .ref (g 1), .ref (g 4)]))]) (As := [.int wk, .int (2 : Int32)]) C X hl.1 (c_roundsOn l D cI cJ cZ cB cO w wk (2 : Int32)) [1, 2] [0] ⟨rfl, rfl, by decide, by decide, by decide⟩ (qb := 0) rfl rfl k_39_17 k_31_11 k_31_12 k_1_14 k_31_13 (n := 2) (by decide +kernel) ⟨Nat.le_of_ble_eq_true rfl, Nat.le_of_ble_eq_true rfl⟩ rfl rfl (Nat.le_of_ble_eq_true rfl) dX7_lastDayOf_15 ⟨Nat.le_of_ble_eq_true rfl, Nat.le_of_ble_eq_true rfl⟩ (fun r_8 u_7 H locs w_9 X => ?_)
  have X : Wd D A s [((g 0), .inr (7, [.ref (w 0), .ref (g 1), .ref (g 4)])), ((w 0), .inr (10, [.int (0 : Int32), .ref (w 1), .int (0 : Int32), .ref (w 2), .ref (w 3), .int (0 : Int32), .ref (w 4), .ref (w 5), .ref (w 6), .ref (w 7), .ref (w 8), .long (1 : Int64)])), ((w 6), .inl (cI, 160, .inl (fun _ => (0 : Int32))))] H locs := X
  refine W.widen (k := 0) (n := 0) (Nat.le_of_ble_eq_true rfl) (Nat.le_of_ble_eq_true rfl) ?_
  obtain ⟨rfl, fw_9⟩ : r_8 = (0 : Int32) ∧ True := w_9
  refine lv_if_le (tgt := 23) hx hb dX7_lastDayOf_18 (by decide) (fun _ => ?_) (fun c0 => absurd (by decide) c0)
  refine lv_iinc (v := (3 : Int32)) (lv' := [(3, .int (3 : Int32)), (2, .int (-1 : Int32)), (0, .ref (g 0)), (1, .int wk)]) hx hb dX7_lastDayOf_23 hl (k := 0) rfl (by decide) (by decide) rfl (fun ls hl => ?_)
  refine lv_goto (tgt := 4) hx hb dX7_lastDayOf_26 (by decide) ?_
  refine lv_iload_n hx hb dX7_lastDayOf_4 rfl (lv_at hl 0 rfl) ?_
  refine lv_iconst (v := (4 : Int32)) hx hb dX7_lastDayOf_5 (by decide) ?_
  refine lv_icmp_ge (tgt := 29) hx hb dX7_lastDayOf_6 (by decide) (fun c0 => absurd c0 (by decide)) (fun _ => ?_)
  refine lv_aload_n hx hb dX7_lastDayOf_9 rfl (lv_at hl 2 rfl) ?_
  refine x_get (own := RX7) (T := TX7) C X 0 rfl rfl 0 (by decide) k_7_11 rfl rfl (v := .ref (w 0)) rfl dX7_lastDayOf_10 ?_
  refine lv_iload_n hx hb dX7_lastDayOf_13 rfl (lv_at hl 3 rfl) ?_
  refine lv_iload_n hx hb dX7_lastDayOf_14 rfl (lv_at hl 0 rfl) ?_
  refine x_cV (own := RX7) (wr := [((g 0), .inr (7, [.ref (w 0), .ref (g 1), .ref (g 4)]))]) (As := [.int wk, .int (3 : Int32)]) C X hl.1 (c_roundsOn l D cI cJ cZ cB cO w wk (3 : Int32)) [1, 2] [0] ⟨rfl, rfl, by decide, by decide, by decide⟩ (qb := 0) rfl rfl k_39_17 k_31_11 k_31_12 k_1_14 k_31_13 (n := 2) (by decide +kernel) ⟨Nat.le_of_ble_eq_true rfl, Nat.le_of_ble_eq_true rfl⟩ rfl rfl (Nat.le_of_ble_eq_true rfl) dX7_lastDayOf_15 ⟨Nat.le_of_ble_eq_true rfl, Nat.le_of_ble_eq_true rfl⟩ (fun r_11 u_10 H locs w_12 X => ?_)
  have X : Wd D A s [((g 0), .inr (7, [.ref (w 0), .ref (g 1), .ref (g 4)])), ((w 0), .inr (10, [.int (0 : Int32), .ref (w 1), .int (0 : Int32), .ref (w 2), .ref (w 3), .int (0 : Int32), .ref (w 4), .ref (w 5), .ref (w 6), .ref (w 7), .ref (w 8), .long (1 : Int64)])), ((w 6), .inl (cI, 160, .inl (fun _ => (0 : Int32))))] H locs := X
  refine W.widen (k := 0) (n := 0) (Nat.le_of_ble_eq_true rfl) (Nat.le_of_ble_eq_true rfl) ?_
  obtain ⟨rfl, fw_12⟩ : r_11 = (0 : Int32) ∧ True := w_12
  refine lv_if_le (tgt := 23) hx hb dX7_lastDayOf_18 (by decide) (fun _ => ?_) (fun c0 => absurd (by decide) c0)
  refine lv_iinc (v := (4 : Int32)) (lv' := [(3, .int (4 : Int32)), (2, .int (-1 : Int32)), (0, .ref (g 0)), (1, .int wk)]) hx hb dX7_lastDayOf_23 hl (k := 0) rfl (by decide) (by decide) rfl (fun ls hl => ?_)
  refine lv_goto (tgt := 4) hx hb dX7_lastDayOf_26 (by decide) ?_
  refine lv_iload_n hx hb dX7_lastDayOf_4 rfl (lv_at hl 0 rfl) ?_
  refine lv_iconst (v := (4 : Int32)) hx hb dX7_lastDayOf_5 (by decide) ?_
  refine lv_icmp_ge (tgt := 29) hx hb dX7_lastDayOf_6 (by decide) (fun _ => ?_) (fun c0 => absurd (by decide) c0)
  refine lv_iload_n hx hb dX7_lastDayOf_29 rfl (lv_at hl 1 rfl) ?_
  exact x_iret C X hr hlk (v := (-1 : Int32)) (by first | rfl | decide) (()) [0, 1, 2] (by decide) rfl (⟨rfl, trivial⟩) (Nat.le_of_ble_eq_true rfl) (Nat.le_of_ble_eq_true rfl) dX7_lastDayOf_30
set_option maxHeartbeats 4000000 in
set_option maxRecDepth 100000 in
theorem c_rankBySums (l : Launch) (D : va_G) (cI cJ cZ cB : ClassId) (cO : ClassId) (g w : Nat → Nat) (wk dy : Int32) :
    CV l D [(cI, .int), (cJ, .long), (cZ, .boolean), (cB, .byte), (cO, .object "LuckLinks$World")] yX7_rankBySums cX7_rankBySums 4 ({ frames := 1, cells := 0, slots := 0, locals := 20 } : Room) [.ref (g 0), .int wk, .int dy] [((g 0), .inr (7, [.ref (w 0), .ref (g 1), .ref (g 4)])), ((g 1), .inr (5, [.ref (g 2), .ref (g 3), .int (0 : Int32)])), ((w 0), .inr (10, [.int (0 : Int32), .ref (w 1), .int (0 : Int32), .ref (w 2), .ref (w 3), .int (0 : Int32), .ref (w 4), .ref (w 5), .ref (w 6), .ref (w 7), .ref (w 8), .long (1 : Int64)]))] (fun (u : Unit) => (True)) (fun (_ : Unit) => [((g 0), .inr (7, [.ref (w 0), .ref (g 1), .ref (g 4)])), ((g 1), .inr (5, [.ref (g 2), .ref (g 3), .int (0 : Int32)])), ((w 0), .inr (10, [.int (0 : Int32), .ref (w 1), .int (0 : Int32), .ref (w 2), .ref (w 3), .int (0 : Int32), .ref (w 4), .ref (w 5), .ref (w 6), .ref (w 7), .ref (w 8), .long (1 : Int64)]))]) := by
  intro sz
  refine body_of (y := yX7_rankBySums) (cc := cX7_rankBySums) (maxL := 4) (ret := none) (rm := ({ frames := 1, cells := 0, slots := 0, locals := 20 } : Room)) (wc := [((g 0), .inr (7, [.ref (w 0), .ref (g 1), .ref (g 4)])), ((g 1), .inr (5, [.ref (g 2), .ref (g 3), .int (0 : Int32)])), ((w 0), .inr (10, [.int (0 : Int32), .ref (w 1), .int (0 : Int32), .ref (w 2), .ref (w 3), .int (0 : Int32), .ref (w 4), .ref (w 5), .ref (w 6), .ref (w 7), .ref (w 8), .long (1 : Int64)]))]) (tys := [(cI, .int), (cJ, .long), (cZ, .boolean), (cB, .byte), (cO, .object "LuckLinks$World")]) (D := D) (sz := sz) (own := RX7) (av := [.ref (g 0), .int wk, .int dy]) (Qc := fun A => va_Qv (fun (u : Unit) => (True)) (fun u t => Aft D A ((fun (_ : Unit) => [((g 0), .inr (7, [.ref (w 0), .ref (g 1), .ref (g 4)])), ((g 1), .inr (5, [.ref (g 2), .ref (g 3), .int (0 : Int32)])), ((w 0), .inr (10, [.int (0 : Int32), .ref (w 1), .int (0 : Int32), .ref (w 2), .ref (w 3), .int (0 : Int32), .ref (w 4), .ref (w 5), .ref (w 6), .ref (w 7), .ref (w 8), .long (1 : Int64)]))]) u) t) A) (by decide) rfl (Nat.le_of_ble_eq_true rfl) (fun p e s m below meth c A ls C hr hlk hin X hl => ?_)
  have hx := C.1
  have hb := C.2.1
  have hown := C.2.2.2.1
  have hts := C.2.2.2.2.1
  have hl : lv_has ls 4 [(0, .ref (g 0)), (1, .int wk), (2, .int dy)] := hl
  show W p l e _ s m _ below meth c s.heap [] 0 0 (MQ below (va_Qv (fun (u : Unit) => (True)) (fun u t => Aft D A ((fun (_ : Unit) => [((g 0), .inr (7, [.ref (w 0), .ref (g 1), .ref (g 4)])), ((g 1), .inr (5, [.ref (g 2), .ref (g 3), .int (0 : Int32)])), ((w 0), .inr (10, [.int (0 : Int32), .ref (w 1), .int (0 : Int32), .ref (w 2), .ref (w 3), .int (0 : Int32), .ref (w 4), .ref (w 5), .ref (w 6), .ref (w 7), .ref (w 8), .long (1 : Int64)]))]) u) t) A) ([.ref (g 0), .int wk, .int dy] : List Value).toArray s 0 0 A) (F0 m 0 ls [])
  have X : Wd D A s [((g 0), .inr (7, [.ref (w 0), .ref (g 1), .ref (g 4)])), ((g 1), .inr (5, [.ref (g 2), .ref (g 3), .int (0 : Int32)])), ((w 0), .inr (10, [.int (0 : Int32), .ref (w 1), .int (0 : Int32), .ref (w 2), .ref (w 3), .int (0 : Int32), .ref (w 4), .ref (w 5), .ref (w 6), .ref (w 7), .ref (w 8), .long (1 : Int64)]))] s.heap [] := X
  obtain ⟨H, locs, eH, eL⟩ : ∃ H locs, H = s.heap ∧ locs = ([] : List Loc) := ⟨_, _, rfl, rfl⟩
  rw [← eH, ← eL] at X ⊢
  clear eH eL
  refine lv_aload_n hx hb dX7_rankBySums_0 rfl (lv_at hl 0 rfl) ?_
  refine x_get (own := RX7) (T := TX7) C X 0 rfl rfl 1 (by decide) k_7_9 rfl rfl (v := .ref (g 1)) rfl dX7_rankBySums_1 ?_
  refine x_cVv (own := RX7) (wr := [((g 0), .inr (7, [.ref (w 0), .ref (g 1), .ref (g 4)])), ((w 0), .inr (10, [.int (0 : Int32), .ref (w 1), .int (0 : Int32), .ref (w 2), .ref (w 3), .int (0 : Int32), .ref (w 4), .ref (w 5), .ref (w 6), .ref (w 7), .ref (w 8), .long (1 : Int64)]))]) (As := []) C X hl.1 (c_Rclear l D cI cJ cZ cB cO (fun k => g (k + 1))) [1] [0, 2] ⟨rfl, rfl, by decide, by decide, by decide⟩ (qb := 0) rfl rfl k_40_0 k_33_13 k_33_14 k_6_16 k_33_15 (n := 0) (by decide +kernel) ⟨Nat.le_of_ble_eq_true rfl, Nat.le_of_ble_eq_true rfl⟩ rfl rfl (Nat.le_of_ble_eq_true rfl) dX7_rankBySums_4 ⟨Nat.le_of_ble_eq_true rfl, Nat.le_of_ble_eq_true rfl⟩ (fun u_1 H locs w_3 X => ?_)
  have X : Wd D A s [((g 0), .inr (7, [.ref (w 0), .ref (g 1), .ref (g 4)])), ((w 0), .inr (10, [.int (0 : Int32), .ref (w 1), .int (0 : Int32), .ref (w 2), .ref (w 3), .int (0 : Int32), .ref (w 4), .ref (w 5), .ref (w 6), .ref (w 7), .ref (w 8), .long (1 : Int64)])), ((g 1), .inr (5, [.ref (g 2), .ref (g 3), .int (0 : Int32)]))] H locs := X
  refine W.widen (k := 0) (n := 0) (Nat.le_of_ble_eq_true rfl) (Nat.le_of_ble_eq_true rfl) ?_
  refine lv_iconst (v := (0 : Int32)) hx hb dX7_rankBySums_7 (by decide) ?_
  refine lv_istore_n (lv' := [(3, .int (0 : Int32)), (0, .ref (g 0)), (1, .int wk), (2, .int dy)]) hx hb dX7_rankBySums_8 rfl hl (by decide) rfl (fun ls hl => ?_)
  refine lv_iload_n hx hb dX7_rankBySums_9 rfl (lv_at hl 0 rfl) ?_
  refine lv_aload_n hx hb dX7_rankBySums_10 rfl (lv_at hl 1 rfl) ?_
  refine x_get (own := RX7) (T := TX7) C X 0 rfl rfl 0 (by decide) k_7_11 rfl rfl (v := .ref (w 0)) rfl dX7_rankBySums_11 ?_
  refine x_get (own := RX7) (T := TX10) C X 1 rfl rfl 0 (by decide) k_39_23 rfl rfl (v := .int (0 : Int32)) rfl dX7_rankBySums_14 ?_
  refine lv_icmp_ge (tgt := 57) hx hb dX7_rankBySums_17 (by decide) (fun _ => ?_) (fun c0 => absurd (by decide) c0)
  exact x_vret C X hr hlk (()) [0, 2, 1] (by decide) rfl (trivial) (Nat.le_of_ble_eq_true rfl) (Nat.le_of_ble_eq_true rfl) dX7_rankBySums_57
set_option maxHeartbeats 4000000 in
set_option maxRecDepth 100000 in
theorem c_addShares (l : Launch) (D : va_G) (cI cJ cZ cB : ClassId) (cO : ClassId) (g w : Nat → Nat) (pt : Nat) (wk : Int32) :
    CV l D [(cI, .int), (cJ, .long), (cZ, .boolean), (cB, .byte), (cO, .object "LuckLinks$World")] yX7_addShares cX7_addShares 9 ({ frames := 2, cells := 0, slots := 0, locals := 46 } : Room) [.ref (g 0), .int wk, .ref pt] [((g 0), .inr (7, [.ref (w 0), .ref (g 1), .ref (g 4)])), ((g 1), .inr (5, [.ref (g 2), .ref (g 3), .int (0 : Int32)])), ((w 0), .inr (10, [.int (0 : Int32), .ref (w 1), .int (0 : Int32), .ref (w 2), .ref (w 3), .int (0 : Int32), .ref (w 4), .ref (w 5), .ref (w 6), .ref (w 7), .ref (w 8), .long (1 : Int64)])), ((w 6), .inl (cI, 160, .inl (fun _ => (0 : Int32))))] (fun (u : Unit) => (True)) (fun (_ : Unit) => [((g 0), .inr (7, [.ref (w 0), .ref (g 1), .ref (g 4)])), ((g 1), .inr (5, [.ref (g 2), .ref (g 3), .int (0 : Int32)])), ((w 0), .inr (10, [.int (0 : Int32), .ref (w 1), .int (0 : Int32), .ref (w 2), .ref (w 3), .int (0 : Int32), .ref (w 4), .ref (w 5), .ref (w 6), .ref (w 7), .ref (w 8), .long (1 : Int64)])), ((w 6), .inl (cI, 160, .inl (fun _ => (0 : Int32))))]) := by
  intro sz
  refine body_of (y := yX7_addShares) (cc := cX7_addShares) (maxL := 9) (ret := none) (rm := ({ frames := 2, cells := 0, slots := 0, locals := 46 } : Room)) (wc := [((g 0), .inr (7, [.ref (w 0), .ref (g 1), .ref (g 4)])), ((g 1), .inr (5, [.ref (g 2), .ref (g 3), .int (0 : Int32)])), ((w 0), .inr (10, [.int (0 : Int32), .ref (w 1), .int (0 : Int32), .ref (w 2), .ref (w 3), .int (0 : Int32), .ref (w 4), .ref (w 5), .ref (w 6), .ref (w 7), .ref (w 8), .long (1 : Int64)])), ((w 6), .inl (cI, 160, .inl (fun _ => (0 : Int32))))]) (tys := [(cI, .int), (cJ, .long), (cZ, .boolean), (cB, .byte), (cO, .object "LuckLinks$World")]) (D := D) (sz := sz) (own := RX7) (av := [.ref (g 0), .int wk, .ref pt]) (Qc := fun A => va_Qv (fun (u : Unit) => (True)) (fun u t => Aft D A ((fun (_ : Unit) => [((g 0), .inr (7, [.ref (w 0), .ref (g 1), .ref (g 4)])), ((g 1), .inr (5, [.ref (g 2), .ref (g 3), .int (0 : Int32)])), ((w 0), .inr (10, [.int (0 : Int32), .ref (w 1), .int (0 : Int32), .ref (w 2), .ref (w 3), .int (0 : Int32), .ref (w 4), .ref (w 5), .ref (w 6), .ref (w 7), .ref (w 8), .long (1 : Int64)])), ((w 6), .inl (cI, 160, .inl (fun _ => (0 : Int32))))]) u) t) A) (by decide) rfl (Nat.le_of_ble_eq_true rfl) (fun p e s m below meth c A ls C hr hlk hin X hl => ?_)
  have hx := C.1
  have hb := C.2.1
  have hown := C.2.2.2.1
  have hts := C.2.2.2.2.1
  have hl : lv_has ls 9 [(0, .ref (g 0)), (1, .int wk), (2, .ref pt)] := hl
  show W p l e _ s m _ below meth c s.heap [] 0 0 (MQ below (va_Qv (fun (u : Unit) => (True)) (fun u t => Aft D A ((fun (_ : Unit) => [((g 0), .inr (7, [.ref (w 0), .ref (g 1), .ref (g 4)])), ((g 1), .inr (5, [.ref (g 2), .ref (g 3), .int (0 : Int32)])), ((w 0), .inr (10, [.int (0 : Int32), .ref (w 1), .int (0 : Int32), .ref (w 2), .ref (w 3), .int (0 : Int32), .ref (w 4), .ref (w 5), .ref (w 6), .ref (w 7), .ref (w 8), .long (1 : Int64)])), ((w 6), .inl (cI, 160, .inl (fun _ => (0 : Int32))))]) u) t) A) ([.ref (g 0), .int wk, .ref pt] : List Value).toArray s 0 0 A) (F0 m 0 ls [])
  have X : Wd D A s [((g 0), .inr (7, [.ref (w 0), .ref (g 1), .ref (g 4)])), ((g 1), .inr (5, [.ref (g 2), .ref (g 3), .int (0 : Int32)])), ((w 0), .inr (10, [.int (0 : Int32), .ref (w 1), .int (0 : Int32), .ref (w 2), .ref (w 3), .int (0 : Int32), .ref (w 4), .ref (w 5), .ref (w 6), .ref (w 7), .ref (w 8), .long (1 : Int64)])), ((w 6), .inl (cI, 160, .inl (fun _ => (0 : Int32))))] s.heap [] := X
  obtain ⟨H, locs, eH, eL⟩ : ∃ H locs, H = s.heap ∧ locs = ([] : List Loc) := ⟨_, _, rfl, rfl⟩
  rw [← eH, ← eL] at X ⊢
  clear eH eL
  refine lv_aload_n hx hb dX7_addShares_0 rfl (lv_at hl 0 rfl) ?_
  refine lv_iload_n hx hb dX7_addShares_1 rfl (lv_at hl 1 rfl) ?_
  refine lv_aload_n hx hb dX7_addShares_2 rfl (lv_at hl 0 rfl) ?_
  refine lv_iload_n hx hb dX7_addShares_3 rfl (lv_at hl 1 rfl) ?_
  refine x_cV (own := RX7) (wr := [((g 1), .inr (5, [.ref (g 2), .ref (g 3), .int (0 : Int32)]))]) (As := [.int wk]) C X hl.1 (c_lastDayOf l D cI cJ cZ cB cO g w wk) [0, 2, 3] [1] ⟨rfl, rfl, by decide, by decide, by decide⟩ (qb := 0) rfl rfl k_39_13 k_39_14 k_39_15 k_2_19 k_39_16 (n := 1) (by decide +kernel) ⟨Nat.le_of_ble_eq_true rfl, Nat.le_of_ble_eq_true rfl⟩ rfl rfl (Nat.le_of_ble_eq_true rfl) dX7_addShares_4 ⟨Nat.le_of_ble_eq_true rfl, Nat.le_of_ble_eq_true rfl⟩ (fun r_2 u_1 H locs w_3 X => ?_)
  have X : Wd D A s [((g 1), .inr (5, [.ref (g 2), .ref (g 3), .int (0 : Int32)])), ((g 0), .inr (7, [.ref (w 0), .ref (g 1), .ref (g 4)])), ((w 0), .inr (10, [.int (0 : Int32), .ref (w 1), .int (0 : Int32), .ref (w 2), .ref (w 3), .int (0 : Int32), .ref (w 4), .ref (w 5), .ref (w 6), .ref (w 7), .ref (w 8), .long (1 : Int64)])), ((w 6), .inl (cI, 160, .inl (fun _ => (0 : Int32))))] H locs := X
  refine W.widen (k := 0) (n := 0) (Nat.le_of_ble_eq_true rfl) (Nat.le_of_ble_eq_true rfl) ?_
  obtain ⟨rfl, fw_3⟩ : r_2 = (-1 : Int32) ∧ True := w_3
  refine x_cVv (own := RX7) (wr := [((w 6), .inl (cI, 160, .inl (fun _ => (0 : Int32))))]) (As := [.int wk, .int (-1 : Int32)]) C X hl.1 (c_rankBySums l D cI cJ cZ cB cO g w wk (-1 : Int32)) [1, 0, 2] [3] ⟨rfl, rfl, by decide, by decide, by decide⟩ (qb := 0) rfl rfl k_39_19 k_39_20 k_39_21 k_2_19 k_39_22 (n := 2) (by decide +kernel) ⟨Nat.le_of_ble_eq_true rfl, Nat.le_of_ble_eq_true rfl⟩ rfl rfl (Nat.le_of_ble_eq_true rfl) dX7_addShares_7 ⟨Nat.le_of_ble_eq_true rfl, Nat.le_of_ble_eq_true rfl⟩ (fun u_4 H locs w_6 X => ?_)
  have X : Wd D A s [((w 6), .inl (cI, 160, .inl (fun _ => (0 : Int32)))), ((g 0), .inr (7, [.ref (w 0), .ref (g 1), .ref (g 4)])), ((g 1), .inr (5, [.ref (g 2), .ref (g 3), .int (0 : Int32)])), ((w 0), .inr (10, [.int (0 : Int32), .ref (w 1), .int (0 : Int32), .ref (w 2), .ref (w 3), .int (0 : Int32), .ref (w 4), .ref (w 5), .ref (w 6), .ref (w 7), .ref (w 8), .long (1 : Int64)]))] H locs := X
  refine W.widen (k := 0) (n := 0) (Nat.le_of_ble_eq_true rfl) (Nat.le_of_ble_eq_true rfl) ?_
  refine lv_iconst (v := (0 : Int32)) hx hb dX7_addShares_10 (by decide) ?_
  refine lv_istore_n (lv' := [(3, .int (0 : Int32)), (0, .ref (g 0)), (1, .int wk), (2, .ref pt)]) hx hb dX7_addShares_11 rfl hl (by decide) rfl (fun ls hl => ?_)
  refine lv_iload_n hx hb dX7_addShares_12 rfl (lv_at hl 0 rfl) ?_
  refine lv_aload_n hx hb dX7_addShares_13 rfl (lv_at hl 1 rfl) ?_
  refine x_get (own := RX7) (T := TX7) C X 1 rfl rfl 1 (by decide) k_7_9 rfl rfl (v := .ref (g 1)) rfl dX7_addShares_14 ?_
  refine x_cV (own := RX7) (wr := [((w 6), .inl (cI, 160, .inl (fun _ => (0 : Int32)))), ((g 0), .inr (7, [.ref (w 0), .ref (g 1), .ref (g 4)])), ((w 0), .inr (10, [.int (0 : Int32), .ref (w 1), .int (0 : Int32), .ref (w 2), .ref (w 3), .int (0 : Int32), .ref (w 4), .ref (w 5), .ref (w 6), .ref (w 7), .ref (w 8), .long (1 : Int64)]))]) (As := []) C X hl.1 (c_Rsize l D cI cJ cZ cB cO (fun k => g (k + 1))) [2] [0, 1, 3] ⟨rfl, rfl, by decide, by decide, by decide⟩ (qb := 0) rfl rfl k_41_14 k_34_1 k_34_2 k_6_16 k_34_3 (n := 0) (by decide +kernel) ⟨Nat.le_of_ble_eq_true rfl, Nat.le_of_ble_eq_true rfl⟩ rfl rfl (Nat.le_of_ble_eq_true rfl) dX7_addShares_17 ⟨Nat.le_of_ble_eq_true rfl, Nat.le_of_ble_eq_true rfl⟩ (fun r_8 u_7 H locs w_9 X => ?_)
  have X : Wd D A s [((w 6), .inl (cI, 160, .inl (fun _ => (0 : Int32)))), ((g 0), .inr (7, [.ref (w 0), .ref (g 1), .ref (g 4)])), ((w 0), .inr (10, [.int (0 : Int32), .ref (w 1), .int (0 : Int32), .ref (w 2), .ref (w 3), .int (0 : Int32), .ref (w 4), .ref (w 5), .ref (w 6), .ref (w 7), .ref (w 8), .long (1 : Int64)])), ((g 1), .inr (5, [.ref (g 2), .ref (g 3), .int (0 : Int32)]))] H locs := X
  refine W.widen (k := 0) (n := 0) (Nat.le_of_ble_eq_true rfl) (Nat.le_of_ble_eq_true rfl) ?_
  obtain ⟨rfl, fw_9⟩ : r_8 = (0 : Int32) ∧ True := w_9
  refine lv_icmp_ge (tgt := 144) hx hb dX7_addShares_20 (by decide) (fun _ => ?_) (fun c0 => absurd (by decide) c0)
  exact x_vret C X hr hlk (()) [1, 3, 2, 0] (by decide) rfl (trivial) (Nat.le_of_ble_eq_true rfl) (Nat.le_of_ble_eq_true rfl) dX7_addShares_144
set_option maxHeartbeats 4000000 in
set_option maxRecDepth 100000 in
theorem c_rankByGains (l : Launch) (D : va_G) (cI cJ cZ cB : ClassId) (cO : ClassId) (g w : Nat → Nat) (pt : Nat) (i j : Nat) (kind : Int32) (hi : i ≤ j) (hj : j < 40) :
    CV l D [(cI, .int), (cJ, .long), (cZ, .boolean), (cB, .byte), (cO, .object "LuckLinks$World")] yX7_rankByGains cX7_rankByGains 6 ({ frames := 3, cells := 0, slots := 0, locals := 74 } : Room) [.ref (g 0), .int (nI (i)), .int (nI (j)), .int kind, .ref pt] [((g 0), .inr (7, [.ref (w 0), .ref (g 1), .ref (g 4)])), ((g 1), .inr (5, [.ref (g 2), .ref (g 3), .int (0 : Int32)])), ((g 4), .inl (cI, 20, .inl (fun _ => (0 : Int32)))), ((w 0), .inr (10, [.int (0 : Int32), .ref (w 1), .int (0 : Int32), .ref (w 2), .ref (w 3), .int (0 : Int32), .ref (w 4), .ref (w 5), .ref (w 6), .ref (w 7), .ref (w 8), .long (1 : Int64)])), ((w 6), .inl (cI, 160, .inl (fun _ => (0 : Int32))))] (fun (u : Unit) => (True)) (fun (_ : Unit) => [((g 0), .inr (7, [.ref (w 0), .ref (g 1), .ref (g 4)])), ((g 1), .inr (5, [.ref (g 2), .ref (g 3), .int (0 : Int32)])), ((g 4), .inl (cI, 20, .inl (fun _ => (0 : Int32)))), ((w 0), .inr (10, [.int (0 : Int32), .ref (w 1), .int (0 : Int32), .ref (w 2), .ref (w 3), .int (0 : Int32), .ref (w 4), .ref (w 5), .ref (w 6), .ref (w 7), .ref (w 8), .long (1 : Int64)])), ((w 6), .inl (cI, 160, .inl (fun _ => (0 : Int32))))]) := by
  intro sz
  refine body_of (y := yX7_rankByGains) (cc := cX7_rankByGains) (maxL := 6) (ret := none) (rm := ({ frames := 3, cells := 0, slots := 0, locals := 74 } : Room)) (wc := [((g 0), .inr (7, [.ref (w 0), .ref (g 1), .ref (g 4)])), ((g 1), .inr (5, [.ref (g 2), .ref (g 3), .int (0 : Int32)])), ((g 4), .inl (cI, 20, .inl (fun _ => (0 : Int32)))), ((w 0), .inr (10, [.int (0 : Int32), .ref (w 1), .int (0 : Int32), .ref (w 2), .ref (w 3), .int (0 : Int32), .ref (w 4), .ref (w 5), .ref (w 6), .ref (w 7), .ref (w 8), .long (1 : Int64)])), ((w 6), .inl (cI, 160, .inl (fun _ => (0 : Int32))))]) (tys := [(cI, .int), (cJ, .long), (cZ, .boolean), (cB, .byte), (cO, .object "LuckLinks$World")]) (D := D) (sz := sz) (own := RX7) (av := [.ref (g 0), .int (nI (i)), .int (nI (j)), .int kind, .ref pt]) (Qc := fun A => va_Qv (fun (u : Unit) => (True)) (fun u t => Aft D A ((fun (_ : Unit) => [((g 0), .inr (7, [.ref (w 0), .ref (g 1), .ref (g 4)])), ((g 1), .inr (5, [.ref (g 2), .ref (g 3), .int (0 : Int32)])), ((g 4), .inl (cI, 20, .inl (fun _ => (0 : Int32)))), ((w 0), .inr (10, [.int (0 : Int32), .ref (w 1), .int (0 : Int32), .ref (w 2), .ref (w 3), .int (0 : Int32), .ref (w 4), .ref (w 5), .ref (w 6), .ref (w 7), .ref (w 8), .long (1 : Int64)])), ((w 6), .inl (cI, 160, .inl (fun _ => (0 : Int32))))]) u) t) A) (by decide) rfl (Nat.le_of_ble_eq_true rfl) (fun p e s m below meth c A ls C hr hlk hin X hl => ?_)
  have hx := C.1
  have hb := C.2.1
  have hown := C.2.2.2.1
  have hts := C.2.2.2.2.1
  have hl : lv_has ls 6 [(0, .ref (g 0)), (1, .int (nI (i))), (2, .int (nI (j))), (3, .int kind), (4, .ref pt)] := hl
  show W p l e _ s m _ below meth c s.heap [] 0 0 (MQ below (va_Qv (fun (u : Unit) => (True)) (fun u t => Aft D A ((fun (_ : Unit) => [((g 0), .inr (7, [.ref (w 0), .ref (g 1), .ref (g 4)])), ((g 1), .inr (5, [.ref (g 2), .ref (g 3), .int (0 : Int32)])), ((g 4), .inl (cI, 20, .inl (fun _ => (0 : Int32)))), ((w 0), .inr (10, [.int (0 : Int32), .ref (w 1), .int (0 : Int32), .ref (w 2), .ref (w 3), .int (0 : Int32), .ref (w 4), .ref (w 5), .ref (w 6), .ref (w 7), .ref (w 8), .long (1 : Int64)])), ((w 6), .inl (cI, 160, .inl (fun _ => (0 : Int32))))]) u) t) A) ([.ref (g 0), .int (nI (i)), .int (nI (j)), .int kind, .ref pt] : List Value).toArray s 0 0 A) (F0 m 0 ls [])
  have X : Wd D A s [((g 0), .inr (7, [.ref (w 0), .ref (g 1), .ref (g 4)])), ((g 1), .inr (5, [.ref (g 2), .ref (g 3), .int (0 : Int32)])), ((g 4), .inl (cI, 20, .inl (fun _ => (0 : Int32)))), ((w 0), .inr (10, [.int (0 : Int32), .ref (w 1), .int (0 : Int32), .ref (w 2), .ref (w 3), .int (0 : Int32), .ref (w 4), .ref (w 5), .ref (w 6), .ref (w 7), .ref (w 8), .long (1 : Int64)])), ((w 6), .inl (cI, 160, .inl (fun _ => (0 : Int32))))] s.heap [] := X
  obtain ⟨H, locs, eH, eL⟩ : ∃ H locs, H = s.heap ∧ locs = ([] : List Loc) := ⟨_, _, rfl, rfl⟩
  rw [← eH, ← eL] at X ⊢
  clear eH eL
  refine lv_aload_n hx hb dX7_rankByGains_0 rfl (lv_at hl 0 rfl) ?_
  refine x_get (own := RX7) (T := TX7) C X 0 rfl rfl 2 (by decide) k_7_10 rfl rfl (v := .ref (g 4)) rfl dX7_rankByGains_1 ?_
  refine lv_iconst (v := (0 : Int32)) hx hb dX7_rankByGains_4 (by decide) ?_
  refine x_cSv (own := RX7) (wr := [((g 0), .inr (7, [.ref (w 0), .ref (g 1), .ref (g 4)])), ((g 1), .inr (5, [.ref (g 2), .ref (g 3), .int (0 : Int32)])), ((w 0), .inr (10, [.int (0 : Int32), .ref (w 1), .int (0 : Int32), .ref (w 2), .ref (w 3), .int (0 : Int32), .ref (w 4), .ref (w 5), .ref (w 6), .ref (w 7), .ref (w 8), .long (1 : Int64)])), ((w 6), .inl (cI, 160, .inl (fun _ => (0 : Int32))))]) (As := [.ref (g 4), .int (0 : Int32)]) C X hl.1 (c_fillI l D cI cJ cZ cB cO (g 4) 20 (fun _ => (0 : Int32)) (0 : Int32) (by omega)) [2] [0, 1, 3, 4] ⟨rfl, rfl, by decide, by decide, by decide⟩ k_41_9 k_4_6 k_4_7 k_4_8 (n := 2) (by decide +kernel) ⟨Nat.le_of_ble_eq_true rfl, Nat.le_of_ble_eq_true rfl⟩ rfl rfl (Nat.le_of_ble_eq_true rfl) dX7_rankByGains_5 ⟨Nat.le_of_ble_eq_true rfl, Nat.le_of_ble_eq_true rfl⟩ (fun u_1 H locs w_3 X => ?_)
  have X : Wd D A s [((g 0), .inr (7, [.ref (w 0), .ref (g 1), .ref (g 4)])), ((g 1), .inr (5, [.ref (g 2), .ref (g 3), .int (0 : Int32)])), ((w 0), .inr (10, [.int (0 : Int32), .ref (w 1), .int (0 : Int32), .ref (w 2), .ref (w 3), .int (0 : Int32), .ref (w 4), .ref (w 5), .ref (w 6), .ref (w 7), .ref (w 8), .long (1 : Int64)])), ((w 6), .inl (cI, 160, .inl (fun _ => (0 : Int32)))), ((g 4), .inl (cI, 20, .inl (fun _ => (0 : Int32))))] H locs := X
  refine W.widen (k := 0) (n := 0) (Nat.le_of_ble_eq_true rfl) (Nat.le_of_ble_eq_true rfl) ?_
  refine lv_iload_n hx hb dX7_rankByGains_8 rfl (lv_at hl 1 rfl) ?_
  refine lv_istore (lv' := [(5, .int (nI (i))), (0, .ref (g 0)), (1, .int (nI (i))), (2, .int (nI (j))), (3, .int kind), (4, .ref pt)]) hx hb dX7_rankByGains_9 hl (by decide) rfl (fun ls hl => ?_)
  have L11 : ∀ (n : Nat) (v : Nat) (H : Heap) (locs : List Loc) (ls : Array Slot), (h1 : v ≤ j + 1) → j + 1 < v + n → Wd D A s [((g 0), .inr (7, [.ref (w 0), .ref (g 1), .ref (g 4)])), ((g 1), .inr (5, [.ref (g 2), .ref (g 3), .int (0 : Int32)])), ((w 0), .inr (10, [.int (0 : Int32), .ref (w 1), .int (0 : Int32), .ref (w 2), .ref (w 3), .int (0 : Int32), .ref (w 4), .ref (w 5), .ref (w 6), .ref (w 7), .ref (w 8), .long (1 : Int64)])), ((w 6), .inl (cI, 160, .inl (fun _ => (0 : Int32)))), ((g 4), .inl (cI, 20, .inl (fun _ => (0 : Int32))))] H locs → lv_has ls 6 [(5, .int (nI (v))), (0, .ref (g 0)), (1, .int (nI (i))), (2, .int (nI (j))), (3, .int kind), (4, .ref pt)] → W p l e ({ frames := 3, cells := 0, slots := 0, locals := 74 } : Room) s m ([.ref (g 0), .int (nI (i)), .int (nI (j)), .int kind, .ref pt] : List Value).toArray below meth c H locs 0 0 (MQ below (va_Qv (fun (u : Unit) => (True)) (fun u t => Aft D A ((fun (_ : Unit) => [((g 0), .inr (7, [.ref (w 0), .ref (g 1), .ref (g 4)])), ((g 1), .inr (5, [.ref (g 2), .ref (g 3), .int (0 : Int32)])), ((g 4), .inl (cI, 20, .inl (fun _ => (0 : Int32)))), ((w 0), .inr (10, [.int (0 : Int32), .ref (w 1), .int (0 : Int32), .ref (w 2), .ref (w 3), .int (0 : Int32), .ref (w 4), .ref (w 5), .ref (w 6), .ref (w 7), .ref (w 8), .long (1 : Int64)])), ((w 6), .inl (cI, 160, .inl (fun _ => (0 : Int32))))]) u) t) A) ([.ref (g 0), .int (nI (i)), .int (nI (j)), .int kind, .ref pt] : List Value).toArray s 0 0 A) (F0 m 11 ls []) := by
    intro n
    induction n with
    | zero => intro v H locs ls h1 hn; exact absurd hn (by omega)
    | succ n ih =>
      intro v H locs ls h1 hn X hl
      have ih11 := ih
      refine lv_iload hx hb dX7_rankByGains_11 (lv_at hl 0 rfl) ?_
      refine lv_iload_n hx hb dX7_rankByGains_13 rfl (lv_at hl 3 rfl) ?_
      refine lv_icmp_gt (tgt := 44) hx hb dX7_rankByGains_14 (by decide) (fun c_4 => ?_) (fun c_4 => ?_)
      · have fc_4 : ((j : Nat) : Int) < ((v : Nat) : Int) := (by have h9 := i_lt c_4; simp only [nI_toInt (n := j) (by omega), nI_toInt (n := v) (by omega)] at h9; exact h9)
        refine lv_aload_n hx hb dX7_rankByGains_44 rfl (lv_at hl 1 rfl) ?_
        refine x_get (own := RX7) (T := TX7) C X 0 rfl rfl 1 (by decide) k_7_9 rfl rfl (v := .ref (g 1)) rfl dX7_rankByGains_45 ?_
        refine x_cVv (own := RX7) (wr := [((g 0), .inr (7, [.ref (w 0), .ref (g 1), .ref (g 4)])), ((w 0), .inr (10, [.int (0 : Int32), .ref (w 1), .int (0 : Int32), .ref (w 2), .ref (w 3), .int (0 : Int32), .ref (w 4), .ref (w 5), .ref (w 6), .ref (w 7), .ref (w 8), .long (1 : Int64)])), ((w 6), .inl (cI, 160, .inl (fun _ => (0 : Int32)))), ((g 4), .inl (cI, 20, .inl (fun _ => (0 : Int32))))]) (As := []) C X hl.1 (c_Rclear l D cI cJ cZ cB cO (fun k => g (k + 1))) [1] [0, 2, 3, 4] ⟨rfl, rfl, by decide, by decide, by decide⟩ (qb := 0) rfl rfl k_40_0 k_33_13 k_33_14 k_6_16 k_33_15 (n := 0) (by decide +kernel) ⟨Nat.le_of_ble_eq_true rfl, Nat.le_of_ble_eq_true rfl⟩ rfl rfl (Nat.le_of_ble_eq_true rfl) dX7_rankByGains_48 ⟨Nat.le_of_ble_eq_true rfl, Nat.le_of_ble_eq_true rfl⟩ (fun u_5 H locs w_7 X => ?_)
        have X : Wd D A s [((g 0), .inr (7, [.ref (w 0), .ref (g 1), .ref (g 4)])), ((w 0), .inr (10, [.int (0 : Int32), .ref (w 1), .int (0 : Int32), .ref (w 2), .ref (w 3), .int (0 : Int32), .ref (w 4), .ref (w 5), .ref (w 6), .ref (w 7), .ref (w 8), .long (1 : Int64)])), ((w 6), .inl (cI, 160, .inl (fun _ => (0 : Int32)))), ((g 4), .inl (cI, 20, .inl (fun _ => (0 : Int32)))), ((g 1), .inr (5, [.ref (g 2), .ref (g 3), .int (0 : Int32)]))] H locs := X
        refine W.widen (k := 0) (n := 0) (Nat.le_of_ble_eq_true rfl) (Nat.le_of_ble_eq_true rfl) ?_
        refine lv_iconst (v := (0 : Int32)) hx hb dX7_rankByGains_51 (by decide) ?_
        refine lv_istore (lv' := [(5, .int (0 : Int32)), (0, .ref (g 0)), (1, .int (nI (i))), (2, .int (nI (j))), (3, .int kind), (4, .ref pt)]) hx hb dX7_rankByGains_52 hl (by decide) rfl (fun ls hl => ?_)
        refine lv_iload hx hb dX7_rankByGains_54 (lv_at hl 0 rfl) ?_
        refine lv_aload_n hx hb dX7_rankByGains_56 rfl (lv_at hl 1 rfl) ?_
        refine x_get (own := RX7) (T := TX7) C X 0 rfl rfl 0 (by decide) k_7_11 rfl rfl (v := .ref (w 0)) rfl dX7_rankByGains_57 ?_
        refine x_get (own := RX7) (T := TX10) C X 1 rfl rfl 0 (by decide) k_39_23 rfl rfl (v := .int (0 : Int32)) rfl dX7_rankByGains_60 ?_
        refine lv_icmp_ge (tgt := 96) hx hb dX7_rankByGains_63 (by decide) (fun _ => ?_) (fun c0 => absurd (by decide) c0)
        exact x_vret C X hr hlk (()) [0, 4, 3, 1, 2] (by decide) rfl (trivial) (Nat.le_of_ble_eq_true rfl) (Nat.le_of_ble_eq_true rfl) dX7_rankByGains_96
      · have fc_4 : ((v : Nat) : Int) ≤ ((j : Nat) : Int) := (by have h9 := i_nlt c_4; simp only [nI_toInt (n := j) (by omega), nI_toInt (n := v) (by omega)] at h9; exact h9)
        refine lv_iload_n hx hb dX7_rankByGains_17 rfl (lv_at hl 4 rfl) ?_
        refine lv_iconst (v := (2 : Int32)) hx hb dX7_rankByGains_18 (by decide) ?_
        refine lv_icmp_eq (tgt := 30) hx hb dX7_rankByGains_19 (by decide) (fun c_8 => ?_) (fun c_8 => ?_)
        · have fc_8 : (kind).toInt = (2 : Int) := i_eq c_8
          refine lv_aload_n hx hb dX7_rankByGains_30 rfl (lv_at hl 1 rfl) ?_
          refine lv_iload hx hb dX7_rankByGains_31 (lv_at hl 0 rfl) ?_
          refine lv_aload hx hb dX7_rankByGains_33 (lv_at hl 5 rfl) ?_
          refine x_cVv (own := RX7) (wr := [((g 4), .inl (cI, 20, .inl (fun _ => (0 : Int32))))]) (As := [.int (nI (v)), .ref pt]) C X hl.1 (c_addShares l D cI cJ cZ cB cO g w pt (nI (v))) [0, 1, 2, 3] [4] ⟨rfl, rfl, by decide, by decide, by decide⟩ (qb := 0) rfl rfl k_41_10 k_41_11 k_41_12 k_2_19 k_41_13 (n := 2) (by decide +kernel) ⟨Nat.le_of_ble_eq_true rfl, Nat.le_of_ble_eq_true rfl⟩ rfl rfl (Nat.le_of_ble_eq_true rfl) dX7_rankByGains_35 ⟨Nat.le_of_ble_eq_true rfl, Nat.le_of_ble_eq_true rfl⟩ (fun u_9 H locs w_11 X => ?_)
          have X : Wd D A s [((g 4), .inl (cI, 20, .inl (fun _ => (0 : Int32)))), ((g 0), .inr (7, [.ref (w 0), .ref (g 1), .ref (g 4)])), ((g 1), .inr (5, [.ref (g 2), .ref (g 3), .int (0 : Int32)])), ((w 0), .inr (10, [.int (0 : Int32), .ref (w 1), .int (0 : Int32), .ref (w 2), .ref (w 3), .int (0 : Int32), .ref (w 4), .ref (w 5), .ref (w 6), .ref (w 7), .ref (w 8), .long (1 : Int64)])), ((w 6), .inl (cI, 160, .inl (fun _ => (0 : Int32))))] H locs := X
          refine W.widen (k := 0) (n := 0) (Nat.le_of_ble_eq_true rfl) (Nat.le_of_ble_eq_true rfl) ?_
          refine lv_iinc (v := (nI (v + 1))) (lv' := [(5, .int (nI (v + 1))), (0, .ref (g 0)), (1, .int (nI (i))), (2, .int (nI (j))), (3, .int kind), (4, .ref pt)]) hx hb dX7_rankByGains_38 hl (k := 0) rfl (nI_add _ 1) (by decide) rfl (fun ls hl => ?_)
          refine lv_goto (tgt := 11) hx hb dX7_rankByGains_41 (by decide) ?_
          exact ih11  (v + 1) H locs ls (by omega) (by omega) (x_sub X [1, 2, 3, 4, 0] (by decide) rfl) (lv_sub hl [0, 1, 2, 3, 4, 5] rfl)
        · have fc_8 : (kind).toInt ≠ (2 : Int) := i_ne c_8
          refine lv_iload hx hb dX7_rankByGains_22 (lv_at hl 0 rfl) ?_
          refine lv_iconst (v := (2 : Int32)) hx hb dX7_rankByGains_24 (by decide) ?_
          refine lv_irem hx hb dX7_rankByGains_25 (by decide) ?_
          refine lv_iload_n hx hb dX7_rankByGains_26 rfl (lv_at hl 4 rfl) ?_
          refine lv_icmp_ne (tgt := 38) hx hb dX7_rankByGains_27 (by decide) (fun c_12 => ?_) (fun c_12 => ?_)
          · have fc_12 : (((nI (v)) - (nI (v)) / (2 : Int32) * (2 : Int32))).toInt ≠ (kind).toInt := i_ne c_12
            refine lv_iinc (v := (nI (v + 1))) (lv' := [(5, .int (nI (v + 1))), (0, .ref (g 0)), (1, .int (nI (i))), (2, .int (nI (j))), (3, .int kind), (4, .ref pt)]) hx hb dX7_rankByGains_38 hl (k := 0) rfl (nI_add _ 1) (by decide) rfl (fun ls hl => ?_)
            refine lv_goto (tgt := 11) hx hb dX7_rankByGains_41 (by decide) ?_
            exact ih11  (v + 1) H locs ls (by omega) (by omega) (x_sub X [0, 1, 2, 3, 4] (by decide) rfl) (lv_sub hl [0, 1, 2, 3, 4, 5] rfl)
          · have fc_12 : (((nI (v)) - (nI (v)) / (2 : Int32) * (2 : Int32))).toInt = (kind).toInt := i_eq c_12
            refine lv_aload_n hx hb dX7_rankByGains_30 rfl (lv_at hl 1 rfl) ?_
            refine lv_iload hx hb dX7_rankByGains_31 (lv_at hl 0 rfl) ?_
            refine lv_aload hx hb dX7_rankByGains_33 (lv_at hl 5 rfl) ?_
            refine x_cVv (own := RX7) (wr := [((g 4), .inl (cI, 20, .inl (fun _ => (0 : Int32))))]) (As := [.int (nI (v)), .ref pt]) C X hl.1 (c_addShares l D cI cJ cZ cB cO g w pt (nI (v))) [0, 1, 2, 3] [4] ⟨rfl, rfl, by decide, by decide, by decide⟩ (qb := 0) rfl rfl k_41_10 k_41_11 k_41_12 k_2_19 k_41_13 (n := 2) (by decide +kernel) ⟨Nat.le_of_ble_eq_true rfl, Nat.le_of_ble_eq_true rfl⟩ rfl rfl (Nat.le_of_ble_eq_true rfl) dX7_rankByGains_35 ⟨Nat.le_of_ble_eq_true rfl, Nat.le_of_ble_eq_true rfl⟩ (fun u_13 H locs w_15 X => ?_)
            have X : Wd D A s [((g 4), .inl (cI, 20, .inl (fun _ => (0 : Int32)))), ((g 0), .inr (7, [.ref (w 0), .ref (g 1), .ref (g 4)])), ((g 1), .inr (5, [.ref (g 2), .ref (g 3), .int (0 : Int32)])), ((w 0), .inr (10, [.int (0 : Int32), .ref (w 1), .int (0 : Int32), .ref (w 2), .ref (w 3), .int (0 : Int32), .ref (w 4), .ref (w 5), .ref (w 6), .ref (w 7), .ref (w 8), .long (1 : Int64)])), ((w 6), .inl (cI, 160, .inl (fun _ => (0 : Int32))))] H locs := X
            refine W.widen (k := 0) (n := 0) (Nat.le_of_ble_eq_true rfl) (Nat.le_of_ble_eq_true rfl) ?_
            refine lv_iinc (v := (nI (v + 1))) (lv' := [(5, .int (nI (v + 1))), (0, .ref (g 0)), (1, .int (nI (i))), (2, .int (nI (j))), (3, .int kind), (4, .ref pt)]) hx hb dX7_rankByGains_38 hl (k := 0) rfl (nI_add _ 1) (by decide) rfl (fun ls hl => ?_)
            refine lv_goto (tgt := 11) hx hb dX7_rankByGains_41 (by decide) ?_
            exact ih11  (v + 1) H locs ls (by omega) (by omega) (x_sub X [1, 2, 3, 4, 0] (by decide) rfl) (lv_sub hl [0, 1, 2, 3, 4, 5] rfl)
  exact L11 (j + 1 + 1) (i) H locs ls (by omega) (by omega) (x_sub X [0, 1, 2, 3, 4] (by decide) rfl) (lv_sub hl [0, 1, 2, 3, 4, 5] rfl)
set_option maxHeartbeats 4000000 in
set_option maxRecDepth 100000 in
theorem c_firstOf (l : Launch) (D : va_G) (cI cJ cZ cB : ClassId) (cO : ClassId) (g w : Nat → Nat) (pt : Nat) (i j : Nat) (kind kk : Int32) (hi : i ≤ j) (hj : j < 40) :
    CI l D [(cI, .int), (cJ, .long), (cZ, .boolean), (cB, .byte), (cO, .object "LuckLinks$World")] yX7_firstOf cX7_firstOf 8 (some .int) ({ frames := 4, cells := 0, slots := 0, locals := 99 } : Room) [.ref (g 0), .int (nI (i)), .int (nI (j)), .int kind, .int kk, .ref pt] [((g 0), .inr (7, [.ref (w 0), .ref (g 1), .ref (g 4)])), ((g 1), .inr (5, [.ref (g 2), .ref (g 3), .int (0 : Int32)])), ((g 4), .inl (cI, 20, .inl (fun _ => (0 : Int32)))), ((w 0), .inr (10, [.int (0 : Int32), .ref (w 1), .int (0 : Int32), .ref (w 2), .ref (w 3), .int (0 : Int32), .ref (w 4), .ref (w 5), .ref (w 6), .ref (w 7), .ref (w 8), .long (1 : Int64)])), ((w 6), .inl (cI, 160, .inl (fun _ => (0 : Int32))))] (fun (r : Int32) (u : Unit) => (r = (0 : Int32) ∧ True)) (fun (_ : Unit) => [((g 0), .inr (7, [.ref (w 0), .ref (g 1), .ref (g 4)])), ((g 1), .inr (5, [.ref (g 2), .ref (g 3), .int (0 : Int32)])), ((g 4), .inl (cI, 20, .inl (fun _ => (0 : Int32)))), ((w 0), .inr (10, [.int (0 : Int32), .ref (w 1), .int (0 : Int32), .ref (w 2), .ref (w 3), .int (0 : Int32), .ref (w 4), .ref (w 5), .ref (w 6), .ref (w 7), .ref (w 8), .long (1 : Int64)])), ((w 6), .inl (cI, 160, .inl (fun _ => (0 : Int32))))]) := by
  intro sz
  refine body_of (y := yX7_firstOf) (cc := cX7_firstOf) (maxL := 8) (ret := (some .int)) (rm := ({ frames := 4, cells := 0, slots := 0, locals := 99 } : Room)) (wc := [((g 0), .inr (7, [.ref (w 0), .ref (g 1), .ref (g 4)])), ((g 1), .inr (5, [.ref (g 2), .ref (g 3), .int (0 : Int32)])), ((g 4), .inl (cI, 20, .inl (fun _ => (0 : Int32)))), ((w 0), .inr (10, [.int (0 : Int32), .ref (w 1), .int (0 : Int32), .ref (w 2), .ref (w 3), .int (0 : Int32), .ref (w 4), .ref (w 5), .ref (w 6), .ref (w 7), .ref (w 8), .long (1 : Int64)])), ((w 6), .inl (cI, 160, .inl (fun _ => (0 : Int32))))]) (tys := [(cI, .int), (cJ, .long), (cZ, .boolean), (cB, .byte), (cO, .object "LuckLinks$World")]) (D := D) (sz := sz) (own := RX7) (av := [.ref (g 0), .int (nI (i)), .int (nI (j)), .int kind, .int kk, .ref pt]) (Qc := fun A => va_Qi (fun (r : Int32) (u : Unit) => (r = (0 : Int32) ∧ True)) (fun u t => Aft D A ((fun (_ : Unit) => [((g 0), .inr (7, [.ref (w 0), .ref (g 1), .ref (g 4)])), ((g 1), .inr (5, [.ref (g 2), .ref (g 3), .int (0 : Int32)])), ((g 4), .inl (cI, 20, .inl (fun _ => (0 : Int32)))), ((w 0), .inr (10, [.int (0 : Int32), .ref (w 1), .int (0 : Int32), .ref (w 2), .ref (w 3), .int (0 : Int32), .ref (w 4), .ref (w 5), .ref (w 6), .ref (w 7), .ref (w 8), .long (1 : Int64)])), ((w 6), .inl (cI, 160, .inl (fun _ => (0 : Int32))))]) u) t) A) (by decide) rfl (Nat.le_of_ble_eq_true rfl) (fun p e s m below meth c A ls C hr hlk hin X hl => ?_)
  have hx := C.1
  have hb := C.2.1
  have hown := C.2.2.2.1
  have hts := C.2.2.2.2.1
  have hl : lv_has ls 8 [(0, .ref (g 0)), (1, .int (nI (i))), (2, .int (nI (j))), (3, .int kind), (4, .int kk), (5, .ref pt)] := hl
  show W p l e _ s m _ below meth c s.heap [] 0 0 (MQ below (va_Qi (fun (r : Int32) (u : Unit) => (r = (0 : Int32) ∧ True)) (fun u t => Aft D A ((fun (_ : Unit) => [((g 0), .inr (7, [.ref (w 0), .ref (g 1), .ref (g 4)])), ((g 1), .inr (5, [.ref (g 2), .ref (g 3), .int (0 : Int32)])), ((g 4), .inl (cI, 20, .inl (fun _ => (0 : Int32)))), ((w 0), .inr (10, [.int (0 : Int32), .ref (w 1), .int (0 : Int32), .ref (w 2), .ref (w 3), .int (0 : Int32), .ref (w 4), .ref (w 5), .ref (w 6), .ref (w 7), .ref (w 8), .long (1 : Int64)])), ((w 6), .inl (cI, 160, .inl (fun _ => (0 : Int32))))]) u) t) A) ([.ref (g 0), .int (nI (i)), .int (nI (j)), .int kind, .int kk, .ref pt] : List Value).toArray s 0 0 A) (F0 m 0 ls [])
  have X : Wd D A s [((g 0), .inr (7, [.ref (w 0), .ref (g 1), .ref (g 4)])), ((g 1), .inr (5, [.ref (g 2), .ref (g 3), .int (0 : Int32)])), ((g 4), .inl (cI, 20, .inl (fun _ => (0 : Int32)))), ((w 0), .inr (10, [.int (0 : Int32), .ref (w 1), .int (0 : Int32), .ref (w 2), .ref (w 3), .int (0 : Int32), .ref (w 4), .ref (w 5), .ref (w 6), .ref (w 7), .ref (w 8), .long (1 : Int64)])), ((w 6), .inl (cI, 160, .inl (fun _ => (0 : Int32))))] s.heap [] := X
  obtain ⟨H, locs, eH, eL⟩ : ∃ H locs, H = s.heap ∧ locs = ([] : List Loc) := ⟨_, _, rfl, rfl⟩
  rw [← eH, ← eL] at X ⊢
  clear eH eL
  refine lv_aload_n hx hb dX7_firstOf_0 rfl (lv_at hl 0 rfl) ?_
  refine lv_iload_n hx hb dX7_firstOf_1 rfl (lv_at hl 1 rfl) ?_
  refine lv_iload_n hx hb dX7_firstOf_2 rfl (lv_at hl 2 rfl) ?_
  refine lv_iload_n hx hb dX7_firstOf_3 rfl (lv_at hl 3 rfl) ?_
  refine lv_aload hx hb dX7_firstOf_4 (lv_at hl 5 rfl) ?_
  refine x_cVv (own := RX7) (wr := []) (As := [.int (nI (i)), .int (nI (j)), .int kind, .ref pt]) C X hl.1 (c_rankByGains l D cI cJ cZ cB cO g w pt i j kind hi hj) [0, 1, 2, 3, 4] [] ⟨rfl, rfl, by decide, by decide, by decide⟩ (qb := 0) rfl rfl k_58_20 k_58_21 k_58_22 k_2_19 k_58_23 (n := 4) (by decide +kernel) ⟨Nat.le_of_ble_eq_true rfl, Nat.le_of_ble_eq_true rfl⟩ rfl rfl (Nat.le_of_ble_eq_true rfl) dX7_firstOf_6 ⟨Nat.le_of_ble_eq_true rfl, Nat.le_of_ble_eq_true rfl⟩ (fun u_1 H locs w_3 X => ?_)
  have X : Wd D A s [((g 0), .inr (7, [.ref (w 0), .ref (g 1), .ref (g 4)])), ((g 1), .inr (5, [.ref (g 2), .ref (g 3), .int (0 : Int32)])), ((g 4), .inl (cI, 20, .inl (fun _ => (0 : Int32)))), ((w 0), .inr (10, [.int (0 : Int32), .ref (w 1), .int (0 : Int32), .ref (w 2), .ref (w 3), .int (0 : Int32), .ref (w 4), .ref (w 5), .ref (w 6), .ref (w 7), .ref (w 8), .long (1 : Int64)])), ((w 6), .inl (cI, 160, .inl (fun _ => (0 : Int32))))] H locs := X
  refine W.widen (k := 0) (n := 0) (Nat.le_of_ble_eq_true rfl) (Nat.le_of_ble_eq_true rfl) ?_
  refine lv_iconst (v := (0 : Int32)) hx hb dX7_firstOf_9 (by decide) ?_
  refine lv_istore (lv' := [(6, .int (0 : Int32)), (0, .ref (g 0)), (1, .int (nI (i))), (2, .int (nI (j))), (3, .int kind), (4, .int kk), (5, .ref pt)]) hx hb dX7_firstOf_10 hl (by decide) rfl (fun ls hl => ?_)
  refine lv_iconst (v := (0 : Int32)) hx hb dX7_firstOf_12 (by decide) ?_
  refine lv_istore (lv' := [(7, .int (0 : Int32)), (6, .int (0 : Int32)), (0, .ref (g 0)), (1, .int (nI (i))), (2, .int (nI (j))), (3, .int kind), (4, .int kk), (5, .ref pt)]) hx hb dX7_firstOf_13 hl (by decide) rfl (fun ls hl => ?_)
  refine lv_iload hx hb dX7_firstOf_15 (lv_at hl 0 rfl) ?_
  refine lv_iload hx hb dX7_firstOf_17 (lv_at hl 6 rfl) ?_
  refine lv_icmp_ge (tgt := 56) hx hb dX7_firstOf_19 (by decide) (fun c_4 => ?_) (fun c_4 => ?_)
  · have fc_4 : (kk).toInt ≤ (0 : Int) := i_le c_4
    refine lv_iload hx hb dX7_firstOf_56 (lv_at hl 1 rfl) ?_
    exact x_iret C X hr hlk (v := (0 : Int32)) (by first | rfl | decide) (()) [0, 1, 2, 3, 4] (by decide) rfl (⟨rfl, trivial⟩) (Nat.le_of_ble_eq_true rfl) (Nat.le_of_ble_eq_true rfl) dX7_firstOf_58
  · have fc_4 : (0 : Int) < (kk).toInt := i_nle c_4
    refine lv_iload hx hb dX7_firstOf_22 (lv_at hl 0 rfl) ?_
    refine lv_aload_n hx hb dX7_firstOf_24 rfl (lv_at hl 2 rfl) ?_
    refine x_get (own := RX7) (T := TX7) C X 0 rfl rfl 1 (by decide) k_7_9 rfl rfl (v := .ref (g 1)) rfl dX7_firstOf_25 ?_
    refine x_cV (own := RX7) (wr := [((g 0), .inr (7, [.ref (w 0), .ref (g 1), .ref (g 4)])), ((g 4), .inl (cI, 20, .inl (fun _ => (0 : Int32)))), ((w 0), .inr (10, [.int (0 : Int32), .ref (w 1), .int (0 : Int32), .ref (w 2), .ref (w 3), .int (0 : Int32), .ref (w 4), .ref (w 5), .ref (w 6), .ref (w 7), .ref (w 8), .long (1 : Int64)])), ((w 6), .inl (cI, 160, .inl (fun _ => (0 : Int32))))]) (As := []) C X hl.1 (c_Rsize l D cI cJ cZ cB cO (fun k => g (k + 1))) [1] [0, 2, 3, 4] ⟨rfl, rfl, by decide, by decide, by decide⟩ (qb := 0) rfl rfl k_41_14 k_34_1 k_34_2 k_6_16 k_34_3 (n := 0) (by decide +kernel) ⟨Nat.le_of_ble_eq_true rfl, Nat.le_of_ble_eq_true rfl⟩ rfl rfl (Nat.le_of_ble_eq_true rfl) dX7_firstOf_28 ⟨Nat.le_of_ble_eq_true rfl, Nat.le_of_ble_eq_true rfl⟩ (fun r_6 u_5 H locs w_7 X => ?_)
    have X : Wd D A s [((g 0), .inr (7, [.ref (w 0), .ref (g 1), .ref (g 4)])), ((g 4), .inl (cI, 20, .inl (fun _ => (0 : Int32)))), ((w 0), .inr (10, [.int (0 : Int32), .ref (w 1), .int (0 : Int32), .ref (w 2), .ref (w 3), .int (0 : Int32), .ref (w 4), .ref (w 5), .ref (w 6), .ref (w 7), .ref (w 8), .long (1 : Int64)])), ((w 6), .inl (cI, 160, .inl (fun _ => (0 : Int32)))), ((g 1), .inr (5, [.ref (g 2), .ref (g 3), .int (0 : Int32)]))] H locs := X
    refine W.widen (k := 0) (n := 0) (Nat.le_of_ble_eq_true rfl) (Nat.le_of_ble_eq_true rfl) ?_
    obtain ⟨rfl, fw_7⟩ : r_6 = (0 : Int32) ∧ True := w_7
    refine lv_icmp_ge (tgt := 56) hx hb dX7_firstOf_31 (by decide) (fun _ => ?_) (fun c0 => absurd (by decide) c0)
    refine lv_iload hx hb dX7_firstOf_56 (lv_at hl 1 rfl) ?_
    exact x_iret C X hr hlk (v := (0 : Int32)) (by first | rfl | decide) (()) [0, 4, 1, 2, 3] (by decide) rfl (⟨rfl, trivial⟩) (Nat.le_of_ble_eq_true rfl) (Nat.le_of_ble_eq_true rfl) dX7_firstOf_58
set_option maxHeartbeats 4000000 in
set_option maxRecDepth 100000 in
theorem c_gatherAll (l : Launch) (D : va_G) (cI cJ cZ cB : ClassId) (cO : ClassId) (g w : Nat → Nat) :
    CV l D [(cI, .int), (cJ, .long), (cZ, .boolean), (cB, .byte), (cO, .object "LuckLinks$World")] yX1_gatherAll cX1_gatherAll 2 ({ frames := 0, cells := 0, slots := 0, locals := 0 } : Room) [.ref (g 0)] [((g 0), .inr (1, [.ref (w 0), .ref (g 1), .ref (g 2), .long (0 : Int64), .long (0 : Int64)])), ((w 0), .inr (10, [.int (0 : Int32), .ref (w 1), .int (0 : Int32), .ref (w 2), .ref (w 3), .int (0 : Int32), .ref (w 4), .ref (w 5), .ref (w 6), .ref (w 7), .ref (w 8), .long (1 : Int64)]))] (fun (u : Unit) => (True)) (fun (_ : Unit) => [((g 0), .inr (1, [.ref (w 0), .ref (g 1), .ref (g 2), .long (0 : Int64), .long (0 : Int64)])), ((w 0), .inr (10, [.int (0 : Int32), .ref (w 1), .int (0 : Int32), .ref (w 2), .ref (w 3), .int (0 : Int32), .ref (w 4), .ref (w 5), .ref (w 6), .ref (w 7), .ref (w 8), .long (1 : Int64)]))]) := by
  intro sz
  refine body_of (y := yX1_gatherAll) (cc := cX1_gatherAll) (maxL := 2) (ret := none) (rm := ({ frames := 0, cells := 0, slots := 0, locals := 0 } : Room)) (wc := [((g 0), .inr (1, [.ref (w 0), .ref (g 1), .ref (g 2), .long (0 : Int64), .long (0 : Int64)])), ((w 0), .inr (10, [.int (0 : Int32), .ref (w 1), .int (0 : Int32), .ref (w 2), .ref (w 3), .int (0 : Int32), .ref (w 4), .ref (w 5), .ref (w 6), .ref (w 7), .ref (w 8), .long (1 : Int64)]))]) (tys := [(cI, .int), (cJ, .long), (cZ, .boolean), (cB, .byte), (cO, .object "LuckLinks$World")]) (D := D) (sz := sz) (own := RX1) (av := [.ref (g 0)]) (Qc := fun A => va_Qv (fun (u : Unit) => (True)) (fun u t => Aft D A ((fun (_ : Unit) => [((g 0), .inr (1, [.ref (w 0), .ref (g 1), .ref (g 2), .long (0 : Int64), .long (0 : Int64)])), ((w 0), .inr (10, [.int (0 : Int32), .ref (w 1), .int (0 : Int32), .ref (w 2), .ref (w 3), .int (0 : Int32), .ref (w 4), .ref (w 5), .ref (w 6), .ref (w 7), .ref (w 8), .long (1 : Int64)]))]) u) t) A) (by decide) rfl (Nat.le_of_ble_eq_true rfl) (fun p e s m below meth c A ls C hr hlk hin X hl => ?_)
  have hx := C.1
  have hb := C.2.1
  have hown := C.2.2.2.1
  have hts := C.2.2.2.2.1
  have hl : lv_has ls 2 [(0, .ref (g 0))] := hl
  show W p l e _ s m _ below meth c s.heap [] 0 0 (MQ below (va_Qv (fun (u : Unit) => (True)) (fun u t => Aft D A ((fun (_ : Unit) => [((g 0), .inr (1, [.ref (w 0), .ref (g 1), .ref (g 2), .long (0 : Int64), .long (0 : Int64)])), ((w 0), .inr (10, [.int (0 : Int32), .ref (w 1), .int (0 : Int32), .ref (w 2), .ref (w 3), .int (0 : Int32), .ref (w 4), .ref (w 5), .ref (w 6), .ref (w 7), .ref (w 8), .long (1 : Int64)]))]) u) t) A) ([.ref (g 0)] : List Value).toArray s 0 0 A) (F0 m 0 ls [])
  have X : Wd D A s [((g 0), .inr (1, [.ref (w 0), .ref (g 1), .ref (g 2), .long (0 : Int64), .long (0 : Int64)])), ((w 0), .inr (10, [.int (0 : Int32), .ref (w 1), .int (0 : Int32), .ref (w 2), .ref (w 3), .int (0 : Int32), .ref (w 4), .ref (w 5), .ref (w 6), .ref (w 7), .ref (w 8), .long (1 : Int64)]))] s.heap [] := X
  obtain ⟨H, locs, eH, eL⟩ : ∃ H locs, H = s.heap ∧ locs = ([] : List Loc) := ⟨_, _, rfl, rfl⟩
  rw [← eH, ← eL] at X ⊢
  clear eH eL
  refine lv_iconst (v := (0 : Int32)) hx hb dX1_gatherAll_0 (by decide) ?_
  refine lv_istore_n (lv' := [(1, .int (0 : Int32)), (0, .ref (g 0))]) hx hb dX1_gatherAll_1 rfl hl (by decide) rfl (fun ls hl => ?_)
  refine lv_iload_n hx hb dX1_gatherAll_2 rfl (lv_at hl 0 rfl) ?_
  refine lv_aload_n hx hb dX1_gatherAll_3 rfl (lv_at hl 1 rfl) ?_
  refine x_get (own := RX1) (T := TX1) C X 0 rfl rfl 0 (by decide) k_7_22 rfl rfl (v := .ref (w 0)) rfl dX1_gatherAll_4 ?_
  refine x_get (own := RX1) (T := TX10) C X 1 rfl rfl 0 (by decide) k_50_10 rfl rfl (v := .int (0 : Int32)) rfl dX1_gatherAll_7 ?_
  refine lv_icmp_ge (tgt := 25) hx hb dX1_gatherAll_10 (by decide) (fun _ => ?_) (fun c0 => absurd (by decide) c0)
  exact x_vret C X hr hlk (()) [0, 1] (by decide) rfl (trivial) (Nat.le_of_ble_eq_true rfl) (Nat.le_of_ble_eq_true rfl) dX1_gatherAll_25
set_option maxHeartbeats 4000000 in
set_option maxRecDepth 100000 in
theorem c_bestAhead (l : Launch) (D : va_G) (cI cJ cZ cB : ClassId) (cO : ClassId) (g w : Nat → Nat) (la : Nat) (wk : Int32) :
    CI l D [(cI, .int), (cJ, .long), (cZ, .boolean), (cB, .byte), (cO, .object "LuckLinks$World")] yX1_bestAhead cX1_bestAhead 10 (some .int) ({ frames := 0, cells := 0, slots := 0, locals := 0 } : Room) [.ref (g 0), .int wk, .ref la] [((g 0), .inr (1, [.ref (w 0), .ref (g 1), .ref (g 2), .long (0 : Int64), .long (0 : Int64)])), ((w 0), .inr (10, [.int (0 : Int32), .ref (w 1), .int (0 : Int32), .ref (w 2), .ref (w 3), .int (0 : Int32), .ref (w 4), .ref (w 5), .ref (w 6), .ref (w 7), .ref (w 8), .long (1 : Int64)]))] (fun (r : Int32) (u : Unit) => (r = (-1 : Int32) ∧ True)) (fun (_ : Unit) => [((g 0), .inr (1, [.ref (w 0), .ref (g 1), .ref (g 2), .long (0 : Int64), .long (0 : Int64)])), ((w 0), .inr (10, [.int (0 : Int32), .ref (w 1), .int (0 : Int32), .ref (w 2), .ref (w 3), .int (0 : Int32), .ref (w 4), .ref (w 5), .ref (w 6), .ref (w 7), .ref (w 8), .long (1 : Int64)]))]) := by
  intro sz
  refine body_of (y := yX1_bestAhead) (cc := cX1_bestAhead) (maxL := 10) (ret := (some .int)) (rm := ({ frames := 0, cells := 0, slots := 0, locals := 0 } : Room)) (wc := [((g 0), .inr (1, [.ref (w 0), .ref (g 1), .ref (g 2), .long (0 : Int64), .long (0 : Int64)])), ((w 0), .inr (10, [.int (0 : Int32), .ref (w 1), .int (0 : Int32), .ref (w 2), .ref (w 3), .int (0 : Int32), .ref (w 4), .ref (w 5), .ref (w 6), .ref (w 7), .ref (w 8), .long (1 : Int64)]))]) (tys := [(cI, .int), (cJ, .long), (cZ, .boolean), (cB, .byte), (cO, .object "LuckLinks$World")]) (D := D) (sz := sz) (own := RX1) (av := [.ref (g 0), .int wk, .ref la]) (Qc := fun A => va_Qi (fun (r : Int32) (u : Unit) => (r = (-1 : Int32) ∧ True)) (fun u t => Aft D A ((fun (_ : Unit) => [((g 0), .inr (1, [.ref (w 0), .ref (g 1), .ref (g 2), .long (0 : Int64), .long (0 : Int64)])), ((w 0), .inr (10, [.int (0 : Int32), .ref (w 1), .int (0 : Int32), .ref (w 2), .ref (w 3), .int (0 : Int32), .ref (w 4), .ref (w 5), .ref (w 6), .ref (w 7), .ref (w 8), .long (1 : Int64)]))]) u) t) A) (by decide) rfl (Nat.le_of_ble_eq_true rfl) (fun p e s m below meth c A ls C hr hlk hin X hl => ?_)
  have hx := C.1
  have hb := C.2.1
  have hown := C.2.2.2.1
  have hts := C.2.2.2.2.1
  have hl : lv_has ls 10 [(0, .ref (g 0)), (1, .int wk), (2, .ref la)] := hl
  show W p l e _ s m _ below meth c s.heap [] 0 0 (MQ below (va_Qi (fun (r : Int32) (u : Unit) => (r = (-1 : Int32) ∧ True)) (fun u t => Aft D A ((fun (_ : Unit) => [((g 0), .inr (1, [.ref (w 0), .ref (g 1), .ref (g 2), .long (0 : Int64), .long (0 : Int64)])), ((w 0), .inr (10, [.int (0 : Int32), .ref (w 1), .int (0 : Int32), .ref (w 2), .ref (w 3), .int (0 : Int32), .ref (w 4), .ref (w 5), .ref (w 6), .ref (w 7), .ref (w 8), .long (1 : Int64)]))]) u) t) A) ([.ref (g 0), .int wk, .ref la] : List Value).toArray s 0 0 A) (F0 m 0 ls [])
  have X : Wd D A s [((g 0), .inr (1, [.ref (w 0), .ref (g 1), .ref (g 2), .long (0 : Int64), .long (0 : Int64)])), ((w 0), .inr (10, [.int (0 : Int32), .ref (w 1), .int (0 : Int32), .ref (w 2), .ref (w 3), .int (0 : Int32), .ref (w 4), .ref (w 5), .ref (w 6), .ref (w 7), .ref (w 8), .long (1 : Int64)]))] s.heap [] := X
  obtain ⟨H, locs, eH, eL⟩ : ∃ H locs, H = s.heap ∧ locs = ([] : List Loc) := ⟨_, _, rfl, rfl⟩
  rw [← eH, ← eL] at X ⊢
  clear eH eL
  refine lv_iconst (v := (-1 : Int32)) hx hb dX1_bestAhead_0 (by decide) ?_
  refine lv_istore_n (lv' := [(3, .int (-1 : Int32)), (0, .ref (g 0)), (1, .int wk), (2, .ref la)]) hx hb dX1_bestAhead_1 rfl hl (by decide) rfl (fun ls hl => ?_)
  refine lv_lconst (v := (0 : Int64)) hx hb dX1_bestAhead_2 (by decide) ?_
  refine lv_lstore (lv' := [(4, .long (0 : Int64)), (3, .int (-1 : Int32)), (0, .ref (g 0)), (1, .int wk), (2, .ref la)]) hx hb dX1_bestAhead_3 hl (by decide) rfl (fun ls hl => ?_)
  refine lv_lconst (v := (0 : Int64)) hx hb dX1_bestAhead_5 (by decide) ?_
  refine lv_lstore (lv' := [(6, .long (0 : Int64)), (4, .long (0 : Int64)), (3, .int (-1 : Int32)), (0, .ref (g 0)), (1, .int wk), (2, .ref la)]) hx hb dX1_bestAhead_6 hl (by decide) rfl (fun ls hl => ?_)
  refine lv_iconst (v := (0 : Int32)) hx hb dX1_bestAhead_8 (by decide) ?_
  refine lv_istore (lv' := [(8, .int (0 : Int32)), (6, .long (0 : Int64)), (4, .long (0 : Int64)), (3, .int (-1 : Int32)), (0, .ref (g 0)), (1, .int wk), (2, .ref la)]) hx hb dX1_bestAhead_9 hl (by decide) rfl (fun ls hl => ?_)
  refine lv_iload hx hb dX1_bestAhead_11 (lv_at hl 0 rfl) ?_
  refine lv_aload_n hx hb dX1_bestAhead_13 rfl (lv_at hl 4 rfl) ?_
  refine x_get (own := RX1) (T := TX1) C X 0 rfl rfl 0 (by decide) k_7_22 rfl rfl (v := .ref (w 0)) rfl dX1_bestAhead_14 ?_
  refine x_get (own := RX1) (T := TX10) C X 1 rfl rfl 0 (by decide) k_50_10 rfl rfl (v := .int (0 : Int32)) rfl dX1_bestAhead_17 ?_
  refine lv_icmp_ge (tgt := 96) hx hb dX1_bestAhead_20 (by decide) (fun _ => ?_) (fun c0 => absurd (by decide) c0)
  refine lv_iload_n hx hb dX1_bestAhead_96 rfl (lv_at hl 3 rfl) ?_
  exact x_iret C X hr hlk (v := (-1 : Int32)) (by first | rfl | decide) (()) [0, 1] (by decide) rfl (⟨rfl, trivial⟩) (Nat.le_of_ble_eq_true rfl) (Nat.le_of_ble_eq_true rfl) dX1_bestAhead_97
set_option maxHeartbeats 4000000 in
set_option maxRecDepth 100000 in
theorem c_missed (l : Launch) (D : va_G) (cI cJ cZ cB : ClassId) (cO : ClassId) (g w : Nat → Nat) (la : Nat) (wk what : Int32) :
    CI l D [(cI, .int), (cJ, .long), (cZ, .boolean), (cB, .byte), (cO, .object "LuckLinks$World")] yX1_missed cX1_missed 7 (some .int) ({ frames := 0, cells := 0, slots := 0, locals := 0 } : Room) [.ref (g 0), .int wk, .int what, .ref la] [((g 0), .inr (1, [.ref (w 0), .ref (g 1), .ref (g 2), .long (0 : Int64), .long (0 : Int64)])), ((w 0), .inr (10, [.int (0 : Int32), .ref (w 1), .int (0 : Int32), .ref (w 2), .ref (w 3), .int (0 : Int32), .ref (w 4), .ref (w 5), .ref (w 6), .ref (w 7), .ref (w 8), .long (1 : Int64)]))] (fun (r : Int32) (u : Unit) => (r = (0 : Int32) ∧ True)) (fun (_ : Unit) => []) := by
  intro sz
  refine body_of (y := yX1_missed) (cc := cX1_missed) (maxL := 7) (ret := (some .int)) (rm := ({ frames := 0, cells := 0, slots := 0, locals := 0 } : Room)) (wc := [((g 0), .inr (1, [.ref (w 0), .ref (g 1), .ref (g 2), .long (0 : Int64), .long (0 : Int64)])), ((w 0), .inr (10, [.int (0 : Int32), .ref (w 1), .int (0 : Int32), .ref (w 2), .ref (w 3), .int (0 : Int32), .ref (w 4), .ref (w 5), .ref (w 6), .ref (w 7), .ref (w 8), .long (1 : Int64)]))]) (tys := [(cI, .int), (cJ, .long), (cZ, .boolean), (cB, .byte), (cO, .object "LuckLinks$World")]) (D := D) (sz := sz) (own := RX1) (av := [.ref (g 0), .int wk, .int what, .ref la]) (Qc := fun A => va_Qi (fun (r : Int32) (u : Unit) => (r = (0 : Int32) ∧ True)) (fun u t => Aft D A ((fun (_ : Unit) => []) u) t) A) (by decide) rfl (Nat.le_of_ble_eq_true rfl) (fun p e s m below meth c A ls C hr hlk hin X hl => ?_)
  have hx := C.1
  have hb := C.2.1
  have hown := C.2.2.2.1
  have hts := C.2.2.2.2.1
  have hl : lv_has ls 7 [(0, .ref (g 0)), (1, .int wk), (2, .int what), (3, .ref la)] := hl
  show W p l e _ s m _ below meth c s.heap [] 0 0 (MQ below (va_Qi (fun (r : Int32) (u : Unit) => (r = (0 : Int32) ∧ True)) (fun u t => Aft D A ((fun (_ : Unit) => []) u) t) A) ([.ref (g 0), .int wk, .int what, .ref la] : List Value).toArray s 0 0 A) (F0 m 0 ls [])
  have X : Wd D A s [((g 0), .inr (1, [.ref (w 0), .ref (g 1), .ref (g 2), .long (0 : Int64), .long (0 : Int64)])), ((w 0), .inr (10, [.int (0 : Int32), .ref (w 1), .int (0 : Int32), .ref (w 2), .ref (w 3), .int (0 : Int32), .ref (w 4), .ref (w 5), .ref (w 6), .ref (w 7), .ref (w 8), .long (1 : Int64)]))] s.heap [] := X
  obtain ⟨H, locs, eH, eL⟩ : ∃ H locs, H = s.heap ∧ locs = ([] : List Loc) := ⟨_, _, rfl, rfl⟩
  rw [← eH, ← eL] at X ⊢
  clear eH eL
  refine lv_iconst (v := (0 : Int32)) hx hb dX1_missed_0 (by decide) ?_
  refine lv_istore (lv' := [(4, .int (0 : Int32)), (0, .ref (g 0)), (1, .int wk), (2, .int what), (3, .ref la)]) hx hb dX1_missed_1 hl (by decide) rfl (fun ls hl => ?_)
  refine lv_iconst (v := (0 : Int32)) hx hb dX1_missed_3 (by decide) ?_
  refine lv_istore (lv' := [(5, .int (0 : Int32)), (4, .int (0 : Int32)), (0, .ref (g 0)), (1, .int wk), (2, .int what), (3, .ref la)]) hx hb dX1_missed_4 hl (by decide) rfl (fun ls hl => ?_)
  refine lv_iload hx hb dX1_missed_6 (lv_at hl 0 rfl) ?_
  refine lv_aload_n hx hb dX1_missed_8 rfl (lv_at hl 2 rfl) ?_
  refine x_get (own := RX1) (T := TX1) C X 0 rfl rfl 0 (by decide) k_7_22 rfl rfl (v := .ref (w 0)) rfl dX1_missed_9 ?_
  refine x_get (own := RX1) (T := TX10) C X 1 rfl rfl 0 (by decide) k_50_10 rfl rfl (v := .int (0 : Int32)) rfl dX1_missed_12 ?_
  refine lv_icmp_ge (tgt := 90) hx hb dX1_missed_15 (by decide) (fun _ => ?_) (fun c0 => absurd (by decide) c0)
  refine lv_iload hx hb dX1_missed_90 (lv_at hl 1 rfl) ?_
  exact x_iret C X hr hlk (v := (0 : Int32)) (by first | rfl | decide) (()) [] (by decide) rfl (⟨rfl, trivial⟩) (Nat.le_of_ble_eq_true rfl) (Nat.le_of_ble_eq_true rfl) dX1_missed_92
set_option maxHeartbeats 4000000 in
set_option maxRecDepth 100000 in
theorem c_setNone (l : Launch) (D : va_G) (cI cJ cZ cB : ClassId) (cO : ClassId) (r : Nat → Nat) :
    CV l D [(cI, .int), (cJ, .long), (cZ, .boolean), (cB, .byte), (cO, .object "LuckLinks$World")] yX6_setNone cX6_setNone 1 ({ frames := 0, cells := 0, slots := 0, locals := 0 } : Room) [.ref (r 0)] [((r 0), .inr (6, [.long (0 : Int64), .long (0 : Int64)]))] (fun (u : Unit) => (True)) (fun (_ : Unit) => [((r 0), .inr (6, [.long (0 : Int64), .long (0 : Int64)]))]) := by
  intro sz
  refine body_of (y := yX6_setNone) (cc := cX6_setNone) (maxL := 1) (ret := none) (rm := ({ frames := 0, cells := 0, slots := 0, locals := 0 } : Room)) (wc := [((r 0), .inr (6, [.long (0 : Int64), .long (0 : Int64)]))]) (tys := [(cI, .int), (cJ, .long), (cZ, .boolean), (cB, .byte), (cO, .object "LuckLinks$World")]) (D := D) (sz := sz) (own := RX6) (av := [.ref (r 0)]) (Qc := fun A => va_Qv (fun (u : Unit) => (True)) (fun u t => Aft D A ((fun (_ : Unit) => [((r 0), .inr (6, [.long (0 : Int64), .long (0 : Int64)]))]) u) t) A) (by decide) rfl (Nat.le_of_ble_eq_true rfl) (fun p e s m below meth c A ls C hr hlk hin X hl => ?_)
  have hx := C.1
  have hb := C.2.1
  have hown := C.2.2.2.1
  have hts := C.2.2.2.2.1
  have hl : lv_has ls 1 [(0, .ref (r 0))] := hl
  show W p l e _ s m _ below meth c s.heap [] 0 0 (MQ below (va_Qv (fun (u : Unit) => (True)) (fun u t => Aft D A ((fun (_ : Unit) => [((r 0), .inr (6, [.long (0 : Int64), .long (0 : Int64)]))]) u) t) A) ([.ref (r 0)] : List Value).toArray s 0 0 A) (F0 m 0 ls [])
  have X : Wd D A s [((r 0), .inr (6, [.long (0 : Int64), .long (0 : Int64)]))] s.heap [] := X
  obtain ⟨H, locs, eH, eL⟩ : ∃ H locs, H = s.heap ∧ locs = ([] : List Loc) := ⟨_, _, rfl, rfl⟩
  rw [← eH, ← eL] at X ⊢
  clear eH eL
  refine lv_aload_n hx hb dX6_setNone_0 rfl (lv_at hl 0 rfl) ?_
  refine lv_lconst (v := (0 : Int64)) hx hb dX6_setNone_1 (by decide) ?_
  refine x_put (own := RX6) (T := TX6) C X 0 rfl rfl 0 (by decide) k_6_8 rfl rfl rfl (ty := .long) (v := .long (0 : Int64)) (by decide +kernel) rfl rfl (Nat.le_of_ble_eq_true rfl) dX6_setNone_2 (fun H locs X => ?_)
  have X : Wd D A s [((r 0), .inr (6, [.long (0 : Int64), .long (0 : Int64)]))] H locs := X
  refine lv_aload_n hx hb dX6_setNone_5 rfl (lv_at hl 0 rfl) ?_
  refine lv_lconst (v := (0 : Int64)) hx hb dX6_setNone_6 (by decide) ?_
  refine x_put (own := RX6) (T := TX6) C X 0 rfl rfl 1 (by decide) k_6_9 rfl rfl rfl (ty := .long) (v := .long (0 : Int64)) (by decide +kernel) rfl rfl (Nat.le_of_ble_eq_true rfl) dX6_setNone_7 (fun H locs X => ?_)
  have X : Wd D A s [((r 0), .inr (6, [.long (0 : Int64), .long (0 : Int64)]))] H locs := X
  exact x_vret C X hr hlk (()) [0] (by decide) rfl (trivial) (Nat.le_of_ble_eq_true rfl) (Nat.le_of_ble_eq_true rfl) dX6_setNone_10
set_option maxHeartbeats 4000000 in
set_option maxRecDepth 100000 in
theorem c_set00 (l : Launch) (D : va_G) (cI cJ cZ cB : ClassId) (cO : ClassId) (r : Nat → Nat) :
    CV l D [(cI, .int), (cJ, .long), (cZ, .boolean), (cB, .byte), (cO, .object "LuckLinks$World")] yX6_set cX6_set 7 ({ frames := 1, cells := 0, slots := 0, locals := 20 } : Room) [.ref (r 0), .long (0 : Int64), .long (0 : Int64)] [((r 0), .inr (6, [.long (0 : Int64), .long (0 : Int64)]))] (fun (u : Unit) => (True)) (fun (_ : Unit) => [((r 0), .inr (6, [.long (0 : Int64), .long (0 : Int64)]))]) := by
  intro sz
  refine body_of (y := yX6_set) (cc := cX6_set) (maxL := 7) (ret := none) (rm := ({ frames := 1, cells := 0, slots := 0, locals := 20 } : Room)) (wc := [((r 0), .inr (6, [.long (0 : Int64), .long (0 : Int64)]))]) (tys := [(cI, .int), (cJ, .long), (cZ, .boolean), (cB, .byte), (cO, .object "LuckLinks$World")]) (D := D) (sz := sz) (own := RX6) (av := [.ref (r 0), .long (0 : Int64), .long (0 : Int64)]) (Qc := fun A => va_Qv (fun (u : Unit) => (True)) (fun u t => Aft D A ((fun (_ : Unit) => [((r 0), .inr (6, [.long (0 : Int64), .long (0 : Int64)]))]) u) t) A) (by decide) rfl (Nat.le_of_ble_eq_true rfl) (fun p e s m below meth c A ls C hr hlk hin X hl => ?_)
  have hx := C.1
  have hb := C.2.1
  have hown := C.2.2.2.1
  have hts := C.2.2.2.2.1
  have hl : lv_has ls 7 [(0, .ref (r 0)), (1, .long (0 : Int64)), (3, .long (0 : Int64))] := hl
  show W p l e _ s m _ below meth c s.heap [] 0 0 (MQ below (va_Qv (fun (u : Unit) => (True)) (fun u t => Aft D A ((fun (_ : Unit) => [((r 0), .inr (6, [.long (0 : Int64), .long (0 : Int64)]))]) u) t) A) ([.ref (r 0), .long (0 : Int64), .long (0 : Int64)] : List Value).toArray s 0 0 A) (F0 m 0 ls [])
  have X : Wd D A s [((r 0), .inr (6, [.long (0 : Int64), .long (0 : Int64)]))] s.heap [] := X
  obtain ⟨H, locs, eH, eL⟩ : ∃ H locs, H = s.heap ∧ locs = ([] : List Loc) := ⟨_, _, rfl, rfl⟩
  rw [← eH, ← eL] at X ⊢
  clear eH eL
  refine lv_lload_n hx hb dX6_set_0 rfl (lv_at hl 2 rfl) ?_
  refine lv_lconst (v := (0 : Int64)) hx hb dX6_set_1 (by decide) ?_
  refine W.lcmp hx hb dX6_set_2 ?_
  refine x_eqi (show lg_cmp (0 : Int64) (0 : Int64) = (0 : Int32) by decide) ?_
  refine lv_if_le (tgt := 17) hx hb dX6_set_3 (by decide) (fun _ => ?_) (fun c0 => absurd (by decide) c0)
  refine lv_lconst (v := (0 : Int64)) hx hb dX6_set_17 (by decide) ?_
  refine lv_lstore (lv' := [(5, .long (0 : Int64)), (0, .ref (r 0)), (1, .long (0 : Int64)), (3, .long (0 : Int64))]) hx hb dX6_set_18 hl (by decide) rfl (fun ls hl => ?_)
  refine lv_lload hx hb dX6_set_20 (lv_at hl 0 rfl) ?_
  refine lv_lconst (v := (1 : Int64)) hx hb dX6_set_22 (by decide) ?_
  refine W.lcmp hx hb dX6_set_23 ?_
  refine x_eqi (show lg_cmp (0 : Int64) (1 : Int64) = (-1 : Int32) by decide) ?_
  refine lv_if_ge (tgt := 34) hx hb dX6_set_24 (by decide) (fun c0 => absurd c0 (by decide)) (fun _ => ?_)
  refine lv_aload_n hx hb dX6_set_27 rfl (lv_at hl 1 rfl) ?_
  refine x_cVv (own := RX6) (wr := []) (As := []) C X hl.1 (c_setNone l D cI cJ cZ cB cO r) [0] [] ⟨rfl, rfl, by decide, by decide, by decide⟩ (qb := 0) rfl rfl k_44_20 k_44_7 k_44_8 k_2_11 k_44_9 (n := 0) (by decide +kernel) ⟨Nat.le_of_ble_eq_true rfl, Nat.le_of_ble_eq_true rfl⟩ rfl rfl (Nat.le_of_ble_eq_true rfl) dX6_set_28 ⟨Nat.le_of_ble_eq_true rfl, Nat.le_of_ble_eq_true rfl⟩ (fun u_1 H locs w_3 X => ?_)
  have X : Wd D A s [((r 0), .inr (6, [.long (0 : Int64), .long (0 : Int64)]))] H locs := X
  refine W.widen (k := 0) (n := 0) (Nat.le_of_ble_eq_true rfl) (Nat.le_of_ble_eq_true rfl) ?_
  refine lv_goto (tgt := 50) hx hb dX6_set_31 (by decide) ?_
  exact x_vret C X hr hlk (()) [0] (by decide) rfl (trivial) (Nat.le_of_ble_eq_true rfl) (Nat.le_of_ble_eq_true rfl) dX6_set_50
set_option maxHeartbeats 4000000 in
set_option maxRecDepth 100000 in
theorem c_pick (l : Launch) (D : va_G) (cI cJ cZ cB : ClassId) (cO : ClassId) (r : Nat → Nat) (what : Int32) (no : Int64) :
    CL l D [(cI, .int), (cJ, .long), (cZ, .boolean), (cB, .byte), (cO, .object "LuckLinks$World")] yX6_pick cX6_pick 4 ({ frames := 0, cells := 0, slots := 0, locals := 0 } : Room) [.ref (r 0), .int what, .long no] [((r 0), .inr (6, [.long (0 : Int64), .long (0 : Int64)]))] (fun (r : Int64) (u : Unit) => (r = no ∧ True)) (fun (_ : Unit) => []) := by
  intro sz
  refine body_of (y := yX6_pick) (cc := cX6_pick) (maxL := 4) (ret := (some .long)) (rm := ({ frames := 0, cells := 0, slots := 0, locals := 0 } : Room)) (wc := [((r 0), .inr (6, [.long (0 : Int64), .long (0 : Int64)]))]) (tys := [(cI, .int), (cJ, .long), (cZ, .boolean), (cB, .byte), (cO, .object "LuckLinks$World")]) (D := D) (sz := sz) (own := RX6) (av := [.ref (r 0), .int what, .long no]) (Qc := fun A => va_Ql (fun (r : Int64) (u : Unit) => (r = no ∧ True)) (fun u t => Aft D A ((fun (_ : Unit) => []) u) t) A) (by decide) rfl (Nat.le_of_ble_eq_true rfl) (fun p e s m below meth c A ls C hr hlk hin X hl => ?_)
  have hx := C.1
  have hb := C.2.1
  have hown := C.2.2.2.1
  have hts := C.2.2.2.2.1
  have hl : lv_has ls 4 [(0, .ref (r 0)), (1, .int what), (2, .long no)] := hl
  show W p l e _ s m _ below meth c s.heap [] 0 0 (MQ below (va_Ql (fun (r : Int64) (u : Unit) => (r = no ∧ True)) (fun u t => Aft D A ((fun (_ : Unit) => []) u) t) A) ([.ref (r 0), .int what, .long no] : List Value).toArray s 0 0 A) (F0 m 0 ls [])
  have X : Wd D A s [((r 0), .inr (6, [.long (0 : Int64), .long (0 : Int64)]))] s.heap [] := X
  obtain ⟨H, locs, eH, eL⟩ : ∃ H locs, H = s.heap ∧ locs = ([] : List Loc) := ⟨_, _, rfl, rfl⟩
  rw [← eH, ← eL] at X ⊢
  clear eH eL
  refine lv_aload_n hx hb dX6_pick_0 rfl (lv_at hl 0 rfl) ?_
  refine x_get (own := RX6) (T := TX6) C X 0 rfl rfl 1 (by decide) k_6_9 rfl rfl (v := .long (0 : Int64)) rfl dX6_pick_1 ?_
  refine lv_lconst (v := (0 : Int64)) hx hb dX6_pick_4 (by decide) ?_
  refine W.lcmp hx hb dX6_pick_5 ?_
  refine x_eqi (show lg_cmp (0 : Int64) (0 : Int64) = (0 : Int32) by decide) ?_
  refine lv_if_eq (tgt := 18) hx hb dX6_pick_6 (by decide) (fun _ => ?_) (fun c0 => absurd (by decide) c0)
  refine lv_lload_n hx hb dX6_pick_18 rfl (lv_at hl 2 rfl) ?_
  exact x_lret C X hr hlk (v := no) (()) [] (by decide) rfl (⟨rfl, trivial⟩) (Nat.le_of_ble_eq_true rfl) (Nat.le_of_ble_eq_true rfl) dX6_pick_19
set_option maxHeartbeats 4000000 in
set_option maxRecDepth 100000 in
theorem c_addCouplesOfDay (l : Launch) (D : va_G) (cI cJ cZ cB : ClassId) (cO : ClassId) (g w : Nat → Nat) (wk dy part : Int32) :
    CV l D [(cI, .int), (cJ, .long), (cZ, .boolean), (cB, .byte), (cO, .object "LuckLinks$World")] yX8_addCouplesOfDay cX8_addCouplesOfDay 9 ({ frames := 1, cells := 0, slots := 0, locals := 23 } : Room) [.ref (g 0), .int wk, .int dy, .int part] [((g 0), .inr (8, [.ref (w 0), .int (0 : Int32), .int (0 : Int32), .int (-1 : Int32), .int (0 : Int32), .long (0 : Int64), .long (0 : Int64), .long (0 : Int64)])), ((w 0), .inr (10, [.int (0 : Int32), .ref (w 1), .int (0 : Int32), .ref (w 2), .ref (w 3), .int (0 : Int32), .ref (w 4), .ref (w 5), .ref (w 6), .ref (w 7), .ref (w 8), .long (1 : Int64)])), ((w 6), .inl (cI, 160, .inl (fun _ => (0 : Int32))))] (fun (u : Unit) => (True)) (fun (_ : Unit) => [((g 0), .inr (8, [.ref (w 0), .int (0 : Int32), .int (0 : Int32), .int (-1 : Int32), .int (0 : Int32), .long (0 : Int64), .long (0 : Int64), .long (0 : Int64)])), ((w 0), .inr (10, [.int (0 : Int32), .ref (w 1), .int (0 : Int32), .ref (w 2), .ref (w 3), .int (0 : Int32), .ref (w 4), .ref (w 5), .ref (w 6), .ref (w 7), .ref (w 8), .long (1 : Int64)])), ((w 6), .inl (cI, 160, .inl (fun _ => (0 : Int32))))]) := by
  intro sz
  refine body_of (y := yX8_addCouplesOfDay) (cc := cX8_addCouplesOfDay) (maxL := 9) (ret := none) (rm := ({ frames := 1, cells := 0, slots := 0, locals := 23 } : Room)) (wc := [((g 0), .inr (8, [.ref (w 0), .int (0 : Int32), .int (0 : Int32), .int (-1 : Int32), .int (0 : Int32), .long (0 : Int64), .long (0 : Int64), .long (0 : Int64)])), ((w 0), .inr (10, [.int (0 : Int32), .ref (w 1), .int (0 : Int32), .ref (w 2), .ref (w 3), .int (0 : Int32), .ref (w 4), .ref (w 5), .ref (w 6), .ref (w 7), .ref (w 8), .long (1 : Int64)])), ((w 6), .inl (cI, 160, .inl (fun _ => (0 : Int32))))]) (tys := [(cI, .int), (cJ, .long), (cZ, .boolean), (cB, .byte), (cO, .object "LuckLinks$World")]) (D := D) (sz := sz) (own := RX8) (av := [.ref (g 0), .int wk, .int dy, .int part]) (Qc := fun A => va_Qv (fun (u : Unit) => (True)) (fun u t => Aft D A ((fun (_ : Unit) => [((g 0), .inr (8, [.ref (w 0), .int (0 : Int32), .int (0 : Int32), .int (-1 : Int32), .int (0 : Int32), .long (0 : Int64), .long (0 : Int64), .long (0 : Int64)])), ((w 0), .inr (10, [.int (0 : Int32), .ref (w 1), .int (0 : Int32), .ref (w 2), .ref (w 3), .int (0 : Int32), .ref (w 4), .ref (w 5), .ref (w 6), .ref (w 7), .ref (w 8), .long (1 : Int64)])), ((w 6), .inl (cI, 160, .inl (fun _ => (0 : Int32))))]) u) t) A) (by decide) rfl (Nat.le_of_ble_eq_true rfl) (fun p e s m below meth c A ls C hr hlk hin X hl => ?_)
  have hx := C.1
  have hb := C.2.1
  have hown := C.2.2.2.1
  have hts := C.2.2.2.2.1
  have hl : lv_has ls 9 [(0, .ref (g 0)), (1, .int wk), (2, .int dy), (3, .int part)] := hl
  show W p l e _ s m _ below meth c s.heap [] 0 0 (MQ below (va_Qv (fun (u : Unit) => (True)) (fun u t => Aft D A ((fun (_ : Unit) => [((g 0), .inr (8, [.ref (w 0), .int (0 : Int32), .int (0 : Int32), .int (-1 : Int32), .int (0 : Int32), .long (0 : Int64), .long (0 : Int64), .long (0 : Int64)])), ((w 0), .inr (10, [.int (0 : Int32), .ref (w 1), .int (0 : Int32), .ref (w 2), .ref (w 3), .int (0 : Int32), .ref (w 4), .ref (w 5), .ref (w 6), .ref (w 7), .ref (w 8), .long (1 : Int64)])), ((w 6), .inl (cI, 160, .inl (fun _ => (0 : Int32))))]) u) t) A) ([.ref (g 0), .int wk, .int dy, .int part] : List Value).toArray s 0 0 A) (F0 m 0 ls [])
  have X : Wd D A s [((g 0), .inr (8, [.ref (w 0), .int (0 : Int32), .int (0 : Int32), .int (-1 : Int32), .int (0 : Int32), .long (0 : Int64), .long (0 : Int64), .long (0 : Int64)])), ((w 0), .inr (10, [.int (0 : Int32), .ref (w 1), .int (0 : Int32), .ref (w 2), .ref (w 3), .int (0 : Int32), .ref (w 4), .ref (w 5), .ref (w 6), .ref (w 7), .ref (w 8), .long (1 : Int64)])), ((w 6), .inl (cI, 160, .inl (fun _ => (0 : Int32))))] s.heap [] := X
  obtain ⟨H, locs, eH, eL⟩ : ∃ H locs, H = s.heap ∧ locs = ([] : List Loc) := ⟨_, _, rfl, rfl⟩
  rw [← eH, ← eL] at X ⊢
  clear eH eL
  refine lv_aload_n hx hb dX8_addCouplesOfDay_0 rfl (lv_at hl 0 rfl) ?_
  refine x_get (own := RX8) (T := TX8) C X 0 rfl rfl 0 (by decide) k_9_11 rfl rfl (v := .ref (w 0)) rfl dX8_addCouplesOfDay_1 ?_
  refine lv_iload_n hx hb dX8_addCouplesOfDay_4 rfl (lv_at hl 1 rfl) ?_
  refine lv_iload_n hx hb dX8_addCouplesOfDay_5 rfl (lv_at hl 2 rfl) ?_
  refine x_cV (own := RX8) (wr := [((g 0), .inr (8, [.ref (w 0), .int (0 : Int32), .int (0 : Int32), .int (-1 : Int32), .int (0 : Int32), .long (0 : Int64), .long (0 : Int64), .long (0 : Int64)]))]) (As := [.int wk, .int dy]) C X hl.1 (c_roundsOn l D cI cJ cZ cB cO w wk dy) [1, 2] [0] ⟨rfl, rfl, by decide, by decide, by decide⟩ (qb := 0) rfl rfl k_44_1 k_31_11 k_31_12 k_1_14 k_31_13 (n := 2) (by decide +kernel) ⟨Nat.le_of_ble_eq_true rfl, Nat.le_of_ble_eq_true rfl⟩ rfl rfl (Nat.le_of_ble_eq_true rfl) dX8_addCouplesOfDay_6 ⟨Nat.le_of_ble_eq_true rfl, Nat.le_of_ble_eq_true rfl⟩ (fun r_2 u_1 H locs w_3 X => ?_)
  have X : Wd D A s [((g 0), .inr (8, [.ref (w 0), .int (0 : Int32), .int (0 : Int32), .int (-1 : Int32), .int (0 : Int32), .long (0 : Int64), .long (0 : Int64), .long (0 : Int64)])), ((w 0), .inr (10, [.int (0 : Int32), .ref (w 1), .int (0 : Int32), .ref (w 2), .ref (w 3), .int (0 : Int32), .ref (w 4), .ref (w 5), .ref (w 6), .ref (w 7), .ref (w 8), .long (1 : Int64)])), ((w 6), .inl (cI, 160, .inl (fun _ => (0 : Int32))))] H locs := X
  refine W.widen (k := 0) (n := 0) (Nat.le_of_ble_eq_true rfl) (Nat.le_of_ble_eq_true rfl) ?_
  obtain ⟨rfl, fw_3⟩ : r_2 = (0 : Int32) ∧ True := w_3
  refine lv_if_ne (tgt := 13) hx hb dX8_addCouplesOfDay_9 (by decide) (fun c0 => absurd (by decide) c0) (fun _ => ?_)
  exact x_vret C X hr hlk (()) [0, 1, 2] (by decide) rfl (trivial) (Nat.le_of_ble_eq_true rfl) (Nat.le_of_ble_eq_true rfl) dX8_addCouplesOfDay_12
set_option maxHeartbeats 4000000 in
set_option maxRecDepth 100000 in
theorem c_compareCouples (l : Launch) (D : va_G) (cI cJ cZ cB : ClassId) (cO : ClassId) (g w r : Nat → Nat) (part : Int32) (i j : Nat) (hi : i ≤ j) (hj : j < 40) :
    CV l D [(cI, .int), (cJ, .long), (cZ, .boolean), (cB, .byte), (cO, .object "LuckLinks$World")] yX8_compareCouples cX8_compareCouples 11 ({ frames := 2, cells := 0, slots := 0, locals := 51 } : Room) [.ref (g 0), .int part, .int (nI (i)), .int (nI (j)), .ref (r 0)] [((g 0), .inr (8, [.ref (w 0), .int (0 : Int32), .int (0 : Int32), .int (-1 : Int32), .int (0 : Int32), .long (0 : Int64), .long (0 : Int64), .long (0 : Int64)])), ((w 0), .inr (10, [.int (0 : Int32), .ref (w 1), .int (0 : Int32), .ref (w 2), .ref (w 3), .int (0 : Int32), .ref (w 4), .ref (w 5), .ref (w 6), .ref (w 7), .ref (w 8), .long (1 : Int64)])), ((w 6), .inl (cI, 160, .inl (fun _ => (0 : Int32)))), ((r 0), .inr (6, [.long (0 : Int64), .long (0 : Int64)]))] (fun (u : Unit) => (True)) (fun (_ : Unit) => [((g 0), .inr (8, [.ref (w 0), .int (0 : Int32), .int (0 : Int32), .int (-1 : Int32), .int (0 : Int32), .long (0 : Int64), .long (0 : Int64), .long (0 : Int64)])), ((w 0), .inr (10, [.int (0 : Int32), .ref (w 1), .int (0 : Int32), .ref (w 2), .ref (w 3), .int (0 : Int32), .ref (w 4), .ref (w 5), .ref (w 6), .ref (w 7), .ref (w 8), .long (1 : Int64)])), ((w 6), .inl (cI, 160, .inl (fun _ => (0 : Int32)))), ((r 0), .inr (6, [.long (0 : Int64), .long (0 : Int64)]))]) := by
  intro sz
  refine body_of (y := yX8_compareCouples) (cc := cX8_compareCouples) (maxL := 11) (ret := none) (rm := ({ frames := 2, cells := 0, slots := 0, locals := 51 } : Room)) (wc := [((g 0), .inr (8, [.ref (w 0), .int (0 : Int32), .int (0 : Int32), .int (-1 : Int32), .int (0 : Int32), .long (0 : Int64), .long (0 : Int64), .long (0 : Int64)])), ((w 0), .inr (10, [.int (0 : Int32), .ref (w 1), .int (0 : Int32), .ref (w 2), .ref (w 3), .int (0 : Int32), .ref (w 4), .ref (w 5), .ref (w 6), .ref (w 7), .ref (w 8), .long (1 : Int64)])), ((w 6), .inl (cI, 160, .inl (fun _ => (0 : Int32)))), ((r 0), .inr (6, [.long (0 : Int64), .long (0 : Int64)]))]) (tys := [(cI, .int), (cJ, .long), (cZ, .boolean), (cB, .byte), (cO, .object "LuckLinks$World")]) (D := D) (sz := sz) (own := RX8) (av := [.ref (g 0), .int part, .int (nI (i)), .int (nI (j)), .ref (r 0)]) (Qc := fun A => va_Qv (fun (u : Unit) => (True)) (fun u t => Aft D A ((fun (_ : Unit) => [((g 0), .inr (8, [.ref (w 0), .int (0 : Int32), .int (0 : Int32), .int (-1 : Int32), .int (0 : Int32), .long (0 : Int64), .long (0 : Int64), .long (0 : Int64)])), ((w 0), .inr (10, [.int (0 : Int32), .ref (w 1), .int (0 : Int32), .ref (w 2), .ref (w 3), .int (0 : Int32), .ref (w 4), .ref (w 5), .ref (w 6), .ref (w 7), .ref (w 8), .long (1 : Int64)])), ((w 6), .inl (cI, 160, .inl (fun _ => (0 : Int32)))), ((r 0), .inr (6, [.long (0 : Int64), .long (0 : Int64)]))]) u) t) A) (by decide) rfl (Nat.le_of_ble_eq_true rfl) (fun p e s m below meth c A ls C hr hlk hin X hl => ?_)
  have hx := C.1
  have hb := C.2.1
  have hown := C.2.2.2.1
  have hts := C.2.2.2.2.1
  have hl : lv_has ls 11 [(0, .ref (g 0)), (1, .int part), (2, .int (nI (i))), (3, .int (nI (j))), (4, .ref (r 0))] := hl
  show W p l e _ s m _ below meth c s.heap [] 0 0 (MQ below (va_Qv (fun (u : Unit) => (True)) (fun u t => Aft D A ((fun (_ : Unit) => [((g 0), .inr (8, [.ref (w 0), .int (0 : Int32), .int (0 : Int32), .int (-1 : Int32), .int (0 : Int32), .long (0 : Int64), .long (0 : Int64), .long (0 : Int64)])), ((w 0), .inr (10, [.int (0 : Int32), .ref (w 1), .int (0 : Int32), .ref (w 2), .ref (w 3), .int (0 : Int32), .ref (w 4), .ref (w 5), .ref (w 6), .ref (w 7), .ref (w 8), .long (1 : Int64)])), ((w 6), .inl (cI, 160, .inl (fun _ => (0 : Int32)))), ((r 0), .inr (6, [.long (0 : Int64), .long (0 : Int64)]))]) u) t) A) ([.ref (g 0), .int part, .int (nI (i)), .int (nI (j)), .ref (r 0)] : List Value).toArray s 0 0 A) (F0 m 0 ls [])
  have X : Wd D A s [((g 0), .inr (8, [.ref (w 0), .int (0 : Int32), .int (0 : Int32), .int (-1 : Int32), .int (0 : Int32), .long (0 : Int64), .long (0 : Int64), .long (0 : Int64)])), ((w 0), .inr (10, [.int (0 : Int32), .ref (w 1), .int (0 : Int32), .ref (w 2), .ref (w 3), .int (0 : Int32), .ref (w 4), .ref (w 5), .ref (w 6), .ref (w 7), .ref (w 8), .long (1 : Int64)])), ((w 6), .inl (cI, 160, .inl (fun _ => (0 : Int32)))), ((r 0), .inr (6, [.long (0 : Int64), .long (0 : Int64)]))] s.heap [] := X
  obtain ⟨H, locs, eH, eL⟩ : ∃ H locs, H = s.heap ∧ locs = ([] : List Loc) := ⟨_, _, rfl, rfl⟩
  rw [← eH, ← eL] at X ⊢
  clear eH eL
  refine lv_aload_n hx hb dX8_compareCouples_0 rfl (lv_at hl 0 rfl) ?_
  refine lv_lconst (v := (0 : Int64)) hx hb dX8_compareCouples_1 (by decide) ?_
  refine x_put (own := RX8) (T := TX8) C X 0 rfl rfl 6 (by decide) k_9_9 rfl rfl rfl (ty := .long) (v := .long (0 : Int64)) (by decide +kernel) rfl rfl (Nat.le_of_ble_eq_true rfl) dX8_compareCouples_2 (fun H locs X => ?_)
  have X : Wd D A s [((g 0), .inr (8, [.ref (w 0), .int (0 : Int32), .int (0 : Int32), .int (-1 : Int32), .int (0 : Int32), .long (0 : Int64), .long (0 : Int64), .long (0 : Int64)])), ((w 0), .inr (10, [.int (0 : Int32), .ref (w 1), .int (0 : Int32), .ref (w 2), .ref (w 3), .int (0 : Int32), .ref (w 4), .ref (w 5), .ref (w 6), .ref (w 7), .ref (w 8), .long (1 : Int64)])), ((w 6), .inl (cI, 160, .inl (fun _ => (0 : Int32)))), ((r 0), .inr (6, [.long (0 : Int64), .long (0 : Int64)]))] H locs := X
  refine lv_aload_n hx hb dX8_compareCouples_5 rfl (lv_at hl 0 rfl) ?_
  refine lv_lconst (v := (0 : Int64)) hx hb dX8_compareCouples_6 (by decide) ?_
  refine x_put (own := RX8) (T := TX8) C X 0 rfl rfl 7 (by decide) k_9_10 rfl rfl rfl (ty := .long) (v := .long (0 : Int64)) (by decide +kernel) rfl rfl (Nat.le_of_ble_eq_true rfl) dX8_compareCouples_7 (fun H locs X => ?_)
  have X : Wd D A s [((g 0), .inr (8, [.ref (w 0), .int (0 : Int32), .int (0 : Int32), .int (-1 : Int32), .int (0 : Int32), .long (0 : Int64), .long (0 : Int64), .long (0 : Int64)])), ((w 0), .inr (10, [.int (0 : Int32), .ref (w 1), .int (0 : Int32), .ref (w 2), .ref (w 3), .int (0 : Int32), .ref (w 4), .ref (w 5), .ref (w 6), .ref (w 7), .ref (w 8), .long (1 : Int64)])), ((w 6), .inl (cI, 160, .inl (fun _ => (0 : Int32)))), ((r 0), .inr (6, [.long (0 : Int64), .long (0 : Int64)]))] H locs := X
  refine lv_iconst (v := (0 : Int32)) hx hb dX8_compareCouples_10 (by decide) ?_
  refine lv_istore (lv' := [(5, .int (0 : Int32)), (0, .ref (g 0)), (1, .int part), (2, .int (nI (i))), (3, .int (nI (j))), (4, .ref (r 0))]) hx hb dX8_compareCouples_11 hl (by decide) rfl (fun ls hl => ?_)
  refine lv_iload hx hb dX8_compareCouples_13 (lv_at hl 0 rfl) ?_
  refine lv_aload_n hx hb dX8_compareCouples_15 rfl (lv_at hl 1 rfl) ?_
  refine x_get (own := RX8) (T := TX8) C X 0 rfl rfl 0 (by decide) k_9_11 rfl rfl (v := .ref (w 0)) rfl dX8_compareCouples_16 ?_
  refine x_get (own := RX8) (T := TX10) C X 1 rfl rfl 0 (by decide) k_43_9 rfl rfl (v := .int (0 : Int32)) rfl dX8_compareCouples_19 ?_
  refine lv_icmp_ge (tgt := 55) hx hb dX8_compareCouples_22 (by decide) (fun _ => ?_) (fun c0 => absurd (by decide) c0)
  refine lv_aload_n hx hb dX8_compareCouples_55 rfl (lv_at hl 1 rfl) ?_
  refine x_get (own := RX8) (T := TX8) C X 0 rfl rfl 6 (by decide) k_9_9 rfl rfl (v := .long (0 : Int64)) rfl dX8_compareCouples_56 ?_
  refine lv_lstore (lv' := [(5, .long (0 : Int64)), (0, .ref (g 0)), (1, .int part), (2, .int (nI (i))), (3, .int (nI (j))), (4, .ref (r 0))]) hx hb dX8_compareCouples_59 hl (by decide) rfl (fun ls hl => ?_)
  refine lv_aload_n hx hb dX8_compareCouples_61 rfl (lv_at hl 1 rfl) ?_
  refine x_get (own := RX8) (T := TX8) C X 0 rfl rfl 7 (by decide) k_9_10 rfl rfl (v := .long (0 : Int64)) rfl dX8_compareCouples_62 ?_
  refine lv_lstore (lv' := [(7, .long (0 : Int64)), (5, .long (0 : Int64)), (0, .ref (g 0)), (1, .int part), (2, .int (nI (i))), (3, .int (nI (j))), (4, .ref (r 0))]) hx hb dX8_compareCouples_65 hl (by decide) rfl (fun ls hl => ?_)
  refine lv_aload_n hx hb dX8_compareCouples_67 rfl (lv_at hl 2 rfl) ?_
  refine lv_lconst (v := (0 : Int64)) hx hb dX8_compareCouples_68 (by decide) ?_
  refine x_put (own := RX8) (T := TX8) C X 0 rfl rfl 6 (by decide) k_9_9 rfl rfl rfl (ty := .long) (v := .long (0 : Int64)) (by decide +kernel) rfl rfl (Nat.le_of_ble_eq_true rfl) dX8_compareCouples_69 (fun H locs X => ?_)
  have X : Wd D A s [((g 0), .inr (8, [.ref (w 0), .int (0 : Int32), .int (0 : Int32), .int (-1 : Int32), .int (0 : Int32), .long (0 : Int64), .long (0 : Int64), .long (0 : Int64)])), ((w 0), .inr (10, [.int (0 : Int32), .ref (w 1), .int (0 : Int32), .ref (w 2), .ref (w 3), .int (0 : Int32), .ref (w 4), .ref (w 5), .ref (w 6), .ref (w 7), .ref (w 8), .long (1 : Int64)])), ((w 6), .inl (cI, 160, .inl (fun _ => (0 : Int32)))), ((r 0), .inr (6, [.long (0 : Int64), .long (0 : Int64)]))] H locs := X
  refine lv_aload_n hx hb dX8_compareCouples_72 rfl (lv_at hl 2 rfl) ?_
  refine lv_lconst (v := (0 : Int64)) hx hb dX8_compareCouples_73 (by decide) ?_
  refine x_put (own := RX8) (T := TX8) C X 0 rfl rfl 7 (by decide) k_9_10 rfl rfl rfl (ty := .long) (v := .long (0 : Int64)) (by decide +kernel) rfl rfl (Nat.le_of_ble_eq_true rfl) dX8_compareCouples_74 (fun H locs X => ?_)
  have X : Wd D A s [((g 0), .inr (8, [.ref (w 0), .int (0 : Int32), .int (0 : Int32), .int (-1 : Int32), .int (0 : Int32), .long (0 : Int64), .long (0 : Int64), .long (0 : Int64)])), ((w 0), .inr (10, [.int (0 : Int32), .ref (w 1), .int (0 : Int32), .ref (w 2), .ref (w 3), .int (0 : Int32), .ref (w 4), .ref (w 5), .ref (w 6), .ref (w 7), .ref (w 8), .long (1 : Int64)])), ((w 6), .inl (cI, 160, .inl (fun _ => (0 : Int32)))), ((r 0), .inr (6, [.long (0 : Int64), .long (0 : Int64)]))] H locs := X
  refine lv_iload_n hx hb dX8_compareCouples_77 rfl (lv_at hl 4 rfl) ?_
  refine lv_istore (lv' := [(9, .int (nI (i))), (7, .long (0 : Int64)), (5, .long (0 : Int64)), (0, .ref (g 0)), (1, .int part), (2, .int (nI (i))), (3, .int (nI (j))), (4, .ref (r 0))]) hx hb dX8_compareCouples_78 hl (by decide) rfl (fun ls hl => ?_)
  have L80 : ∀ (n : Nat) (v : Nat) (H : Heap) (locs : List Loc) (ls : Array Slot), (h1 : v ≤ j + 1) → j + 1 < v + n → Wd D A s [((g 0), .inr (8, [.ref (w 0), .int (0 : Int32), .int (0 : Int32), .int (-1 : Int32), .int (0 : Int32), .long (0 : Int64), .long (0 : Int64), .long (0 : Int64)])), ((w 0), .inr (10, [.int (0 : Int32), .ref (w 1), .int (0 : Int32), .ref (w 2), .ref (w 3), .int (0 : Int32), .ref (w 4), .ref (w 5), .ref (w 6), .ref (w 7), .ref (w 8), .long (1 : Int64)])), ((w 6), .inl (cI, 160, .inl (fun _ => (0 : Int32)))), ((r 0), .inr (6, [.long (0 : Int64), .long (0 : Int64)]))] H locs → lv_has ls 11 [(9, .int (nI (v))), (7, .long (0 : Int64)), (5, .long (0 : Int64)), (0, .ref (g 0)), (1, .int part), (2, .int (nI (i))), (3, .int (nI (j))), (4, .ref (r 0))] → W p l e ({ frames := 2, cells := 0, slots := 0, locals := 51 } : Room) s m ([.ref (g 0), .int part, .int (nI (i)), .int (nI (j)), .ref (r 0)] : List Value).toArray below meth c H locs 0 0 (MQ below (va_Qv (fun (u : Unit) => (True)) (fun u t => Aft D A ((fun (_ : Unit) => [((g 0), .inr (8, [.ref (w 0), .int (0 : Int32), .int (0 : Int32), .int (-1 : Int32), .int (0 : Int32), .long (0 : Int64), .long (0 : Int64), .long (0 : Int64)])), ((w 0), .inr (10, [.int (0 : Int32), .ref (w 1), .int (0 : Int32), .ref (w 2), .ref (w 3), .int (0 : Int32), .ref (w 4), .ref (w 5), .ref (w 6), .ref (w 7), .ref (w 8), .long (1 : Int64)])), ((w 6), .inl (cI, 160, .inl (fun _ => (0 : Int32)))), ((r 0), .inr (6, [.long (0 : Int64), .long (0 : Int64)]))]) u) t) A) ([.ref (g 0), .int part, .int (nI (i)), .int (nI (j)), .ref (r 0)] : List Value).toArray s 0 0 A) (F0 m 80 ls []) := by
    intro n
    induction n with
    | zero => intro v H locs ls h1 hn; exact absurd hn (by omega)
    | succ n ih =>
      intro v H locs ls h1 hn X hl
      have ih80 := ih
      refine lv_iload hx hb dX8_compareCouples_80 (lv_at hl 0 rfl) ?_
      refine lv_iload_n hx hb dX8_compareCouples_82 rfl (lv_at hl 6 rfl) ?_
      refine lv_icmp_gt (tgt := 116) hx hb dX8_compareCouples_83 (by decide) (fun c_1 => ?_) (fun c_1 => ?_)
      · have fc_1 : ((j : Nat) : Int) < ((v : Nat) : Int) := (by have h9 := i_lt c_1; simp only [nI_toInt (n := j) (by omega), nI_toInt (n := v) (by omega)] at h9; exact h9)
        refine lv_lload hx hb dX8_compareCouples_116 (lv_at hl 1 rfl) ?_
        refine lv_lconst (v := (0 : Int64)) hx hb dX8_compareCouples_118 (by decide) ?_
        refine W.lcmp hx hb dX8_compareCouples_119 ?_
        refine x_eqi (show lg_cmp (0 : Int64) (0 : Int64) = (0 : Int32) by decide) ?_
        refine lv_if_eq (tgt := 132) hx hb dX8_compareCouples_120 (by decide) (fun _ => ?_) (fun c0 => absurd (by decide) c0)
        refine lv_aload hx hb dX8_compareCouples_132 (lv_at hl 7 rfl) ?_
        refine x_cVv (own := RX8) (wr := [((g 0), .inr (8, [.ref (w 0), .int (0 : Int32), .int (0 : Int32), .int (-1 : Int32), .int (0 : Int32), .long (0 : Int64), .long (0 : Int64), .long (0 : Int64)])), ((w 0), .inr (10, [.int (0 : Int32), .ref (w 1), .int (0 : Int32), .ref (w 2), .ref (w 3), .int (0 : Int32), .ref (w 4), .ref (w 5), .ref (w 6), .ref (w 7), .ref (w 8), .long (1 : Int64)])), ((w 6), .inl (cI, 160, .inl (fun _ => (0 : Int32))))]) (As := []) C X hl.1 (c_setNone l D cI cJ cZ cB cO r) [3] [0, 1, 2] ⟨rfl, rfl, by decide, by decide, by decide⟩ (qb := 0) rfl rfl k_44_6 k_44_7 k_44_8 k_2_11 k_44_9 (n := 0) (by decide +kernel) ⟨Nat.le_of_ble_eq_true rfl, Nat.le_of_ble_eq_true rfl⟩ rfl rfl (Nat.le_of_ble_eq_true rfl) dX8_compareCouples_134 ⟨Nat.le_of_ble_eq_true rfl, Nat.le_of_ble_eq_true rfl⟩ (fun u_2 H locs w_4 X => ?_)
        have X : Wd D A s [((g 0), .inr (8, [.ref (w 0), .int (0 : Int32), .int (0 : Int32), .int (-1 : Int32), .int (0 : Int32), .long (0 : Int64), .long (0 : Int64), .long (0 : Int64)])), ((w 0), .inr (10, [.int (0 : Int32), .ref (w 1), .int (0 : Int32), .ref (w 2), .ref (w 3), .int (0 : Int32), .ref (w 4), .ref (w 5), .ref (w 6), .ref (w 7), .ref (w 8), .long (1 : Int64)])), ((w 6), .inl (cI, 160, .inl (fun _ => (0 : Int32)))), ((r 0), .inr (6, [.long (0 : Int64), .long (0 : Int64)]))] H locs := X
        refine W.widen (k := 0) (n := 0) (Nat.le_of_ble_eq_true rfl) (Nat.le_of_ble_eq_true rfl) ?_
        refine lv_goto (tgt := 159) hx hb dX8_compareCouples_137 (by decide) ?_
        exact x_vret C X hr hlk (()) [0, 1, 2, 3] (by decide) rfl (trivial) (Nat.le_of_ble_eq_true rfl) (Nat.le_of_ble_eq_true rfl) dX8_compareCouples_159
      · have fc_1 : ((v : Nat) : Int) ≤ ((j : Nat) : Int) := (by have h9 := i_nlt c_1; simp only [nI_toInt (n := j) (by omega), nI_toInt (n := v) (by omega)] at h9; exact h9)
        refine lv_iconst (v := (0 : Int32)) hx hb dX8_compareCouples_86 (by decide) ?_
        refine lv_istore (lv' := [(10, .int (0 : Int32)), (9, .int (nI (v))), (7, .long (0 : Int64)), (5, .long (0 : Int64)), (0, .ref (g 0)), (1, .int part), (2, .int (nI (i))), (3, .int (nI (j))), (4, .ref (r 0))]) hx hb dX8_compareCouples_87 hl (by decide) rfl (fun ls hl => ?_)
        refine lv_iload hx hb dX8_compareCouples_89 (lv_at hl 0 rfl) ?_
        refine lv_iconst (v := (4 : Int32)) hx hb dX8_compareCouples_91 (by decide) ?_
        refine lv_icmp_ge (tgt := 110) hx hb dX8_compareCouples_92 (by decide) (fun c0 => absurd c0 (by decide)) (fun _ => ?_)
        refine lv_aload_n hx hb dX8_compareCouples_95 rfl (lv_at hl 4 rfl) ?_
        refine lv_iload hx hb dX8_compareCouples_96 (lv_at hl 1 rfl) ?_
        refine lv_iload hx hb dX8_compareCouples_98 (lv_at hl 0 rfl) ?_
        refine lv_iload_n hx hb dX8_compareCouples_100 rfl (lv_at hl 5 rfl) ?_
        refine x_cVv (own := RX8) (wr := [((r 0), .inr (6, [.long (0 : Int64), .long (0 : Int64)]))]) (As := [.int (nI (v)), .int (0 : Int32), .int part]) C X hl.1 (c_addCouplesOfDay l D cI cJ cZ cB cO g w (nI (v)) (0 : Int32) part) [0, 1, 2] [3] ⟨rfl, rfl, by decide, by decide, by decide⟩ (qb := 0) rfl rfl k_43_21 k_43_22 k_43_23 k_3_11 k_44_0 (n := 3) (by decide +kernel) ⟨Nat.le_of_ble_eq_true rfl, Nat.le_of_ble_eq_true rfl⟩ rfl rfl (Nat.le_of_ble_eq_true rfl) dX8_compareCouples_101 ⟨Nat.le_of_ble_eq_true rfl, Nat.le_of_ble_eq_true rfl⟩ (fun u_5 H locs w_7 X => ?_)
        have X : Wd D A s [((r 0), .inr (6, [.long (0 : Int64), .long (0 : Int64)])), ((g 0), .inr (8, [.ref (w 0), .int (0 : Int32), .int (0 : Int32), .int (-1 : Int32), .int (0 : Int32), .long (0 : Int64), .long (0 : Int64), .long (0 : Int64)])), ((w 0), .inr (10, [.int (0 : Int32), .ref (w 1), .int (0 : Int32), .ref (w 2), .ref (w 3), .int (0 : Int32), .ref (w 4), .ref (w 5), .ref (w 6), .ref (w 7), .ref (w 8), .long (1 : Int64)])), ((w 6), .inl (cI, 160, .inl (fun _ => (0 : Int32))))] H locs := X
        refine W.widen (k := 0) (n := 0) (Nat.le_of_ble_eq_true rfl) (Nat.le_of_ble_eq_true rfl) ?_
        refine lv_iinc (v := (1 : Int32)) (lv' := [(10, .int (1 : Int32)), (9, .int (nI (v))), (7, .long (0 : Int64)), (5, .long (0 : Int64)), (0, .ref (g 0)), (1, .int part), (2, .int (nI (i))), (3, .int (nI (j))), (4, .ref (r 0))]) hx hb dX8_compareCouples_104 hl (k := 0) rfl (by decide) (by decide) rfl (fun ls hl => ?_)
        refine lv_goto (tgt := 89) hx hb dX8_compareCouples_107 (by decide) ?_
        refine lv_iload hx hb dX8_compareCouples_89 (lv_at hl 0 rfl) ?_
        refine lv_iconst (v := (4 : Int32)) hx hb dX8_compareCouples_91 (by decide) ?_
        refine lv_icmp_ge (tgt := 110) hx hb dX8_compareCouples_92 (by decide) (fun c0 => absurd c0 (by decide)) (fun _ => ?_)
        refine lv_aload_n hx hb dX8_compareCouples_95 rfl (lv_at hl 4 rfl) ?_
        refine lv_iload hx hb dX8_compareCouples_96 (lv_at hl 1 rfl) ?_
        refine lv_iload hx hb dX8_compareCouples_98 (lv_at hl 0 rfl) ?_
        refine lv_iload_n hx hb dX8_compareCouples_100 rfl (lv_at hl 5 rfl) ?_
        refine x_cVv (own := RX8) (wr := [((r 0), .inr (6, [.long (0 : Int64), .long (0 : Int64)]))]) (As := [.int (nI (v)), .int (1 : Int32), .int part]) C X hl.1 (c_addCouplesOfDay l D cI cJ cZ cB cO g w (nI (v)) (1 : Int32) part) [1, 2, 3] [0] ⟨rfl, rfl, by decide, by decide, by decide⟩ (qb := 0) rfl rfl k_43_21 k_43_22 k_43_23 k_3_11 k_44_0 (n := 3) (by decide +kernel) ⟨Nat.le_of_ble_eq_true rfl, Nat.le_of_ble_eq_true rfl⟩ rfl rfl (Nat.le_of_ble_eq_true rfl) dX8_compareCouples_101 ⟨Nat.le_of_ble_eq_true rfl, Nat.le_of_ble_eq_true rfl⟩ (fun u_8 H locs w_10 X => ?_)
        have X : Wd D A s [((r 0), .inr (6, [.long (0 : Int64), .long (0 : Int64)])), ((g 0), .inr (8, [.ref (w 0), .int (0 : Int32), .int (0 : Int32), .int (-1 : Int32), .int (0 : Int32), .long (0 : Int64), .long (0 : Int64), .long (0 : Int64)])), ((w 0), .inr (10, [.int (0 : Int32), .ref (w 1), .int (0 : Int32), .ref (w 2), .ref (w 3), .int (0 : Int32), .ref (w 4), .ref (w 5), .ref (w 6), .ref (w 7), .ref (w 8), .long (1 : Int64)])), ((w 6), .inl (cI, 160, .inl (fun _ => (0 : Int32))))] H locs := X
        refine W.widen (k := 0) (n := 0) (Nat.le_of_ble_eq_true rfl) (Nat.le_of_ble_eq_true rfl) ?_
        refine lv_iinc (v := (2 : Int32)) (lv' := [(10, .int (2 : Int32)), (9, .int (nI (v))), (7, .long (0 : Int64)), (5, .long (0 : Int64)), (0, .ref (g 0)), (1, .int part), (2, .int (nI (i))), (3, .int (nI (j))), (4, .ref (r 0))]) hx hb dX8_compareCouples_104 hl (k := 0) rfl (by decide) (by decide) rfl (fun ls hl => ?_)
        refine lv_goto (tgt := 89) hx hb dX8_compareCouples_107 (by decide) ?_
        refine lv_iload hx hb dX8_compareCouples_89 (lv_at hl 0 rfl) ?_
        refine lv_iconst (v := (4 : Int32)) hx hb dX8_compareCouples_91 (by decide) ?_
        refine lv_icmp_ge (tgt := 110) hx hb dX8_compareCouples_92 (by decide) (fun c0 => absurd c0 (by decide)) (fun _ => ?_)
        refine lv_aload_n hx hb dX8_compareCouples_95 rfl (lv_at hl 4 rfl) ?_
        refine lv_iload hx hb dX8_compareCouples_96 (lv_at hl 1 rfl) ?_
        refine lv_iload hx hb dX8_compareCouples_98 (lv_at hl 0 rfl) ?_
        refine lv_iload_n hx hb dX8_compareCouples_100 rfl (lv_at hl 5 rfl) ?_
        refine x_cVv (own := RX8) (wr := [((r 0), .inr (6, [.long (0 : Int64), .long (0 : Int64)]))]) (As := [.int (nI (v)), .int (2 : Int32), .int part]) C X hl.1 (c_addCouplesOfDay l D cI cJ cZ cB cO g w (nI (v)) (2 : Int32) part) [1, 2, 3] [0] ⟨rfl, rfl, by decide, by decide, by decide⟩ (qb := 0) rfl rfl k_43_21 k_43_22 k_43_23 k_3_11 k_44_0 (n := 3) (by decide +kernel) ⟨Nat.le_of_ble_eq_true rfl, Nat.le_of_ble_eq_true rfl⟩ rfl rfl (Nat.le_of_ble_eq_true rfl) dX8_compareCouples_101 ⟨Nat.le_of_ble_eq_true rfl, Nat.le_of_ble_eq_true rfl⟩ (fun u_11 H locs w_13 X => ?_)
        have X : Wd D A s [((r 0), .inr (6, [.long (0 : Int64), .long (0 : Int64)])), ((g 0), .inr (8, [.ref (w 0), .int (0 : Int32), .int (0 : Int32), .int (-1 : Int32), .int (0 : Int32), .long (0 : Int64), .long (0 : Int64), .long (0 : Int64)])), ((w 0), .inr (10, [.int (0 : Int32), .ref (w 1), .int (0 : Int32), .ref (w 2), .ref (w 3), .int (0 : Int32), .ref (w 4), .ref (w 5), .ref (w 6), .ref (w 7), .ref (w 8), .long (1 : Int64)])), ((w 6), .inl (cI, 160, .inl (fun _ => (0 : Int32))))] H locs := X
        refine W.widen (k := 0) (n := 0) (Nat.le_of_ble_eq_true rfl) (Nat.le_of_ble_eq_true rfl) ?_
        refine lv_iinc (v := (3 : Int32)) (lv' := [(10, .int (3 : Int32)), (9, .int (nI (v))), (7, .long (0 : Int64)), (5, .long (0 : Int64)), (0, .ref (g 0)), (1, .int part), (2, .int (nI (i))), (3, .int (nI (j))), (4, .ref (r 0))]) hx hb dX8_compareCouples_104 hl (k := 0) rfl (by decide) (by decide) rfl (fun ls hl => ?_)
        refine lv_goto (tgt := 89) hx hb dX8_compareCouples_107 (by decide) ?_
        refine lv_iload hx hb dX8_compareCouples_89 (lv_at hl 0 rfl) ?_
        refine lv_iconst (v := (4 : Int32)) hx hb dX8_compareCouples_91 (by decide) ?_
        refine lv_icmp_ge (tgt := 110) hx hb dX8_compareCouples_92 (by decide) (fun c0 => absurd c0 (by decide)) (fun _ => ?_)
        refine lv_aload_n hx hb dX8_compareCouples_95 rfl (lv_at hl 4 rfl) ?_
        refine lv_iload hx hb dX8_compareCouples_96 (lv_at hl 1 rfl) ?_
        refine lv_iload hx hb dX8_compareCouples_98 (lv_at hl 0 rfl) ?_
        refine lv_iload_n hx hb dX8_compareCouples_100 rfl (lv_at hl 5 rfl) ?_
        refine x_cVv (own := RX8) (wr := [((r 0), .inr (6, [.long (0 : Int64), .long (0 : Int64)]))]) (As := [.int (nI (v)), .int (3 : Int32), .int part]) C X hl.1 (c_addCouplesOfDay l D cI cJ cZ cB cO g w (nI (v)) (3 : Int32) part) [1, 2, 3] [0] ⟨rfl, rfl, by decide, by decide, by decide⟩ (qb := 0) rfl rfl k_43_21 k_43_22 k_43_23 k_3_11 k_44_0 (n := 3) (by decide +kernel) ⟨Nat.le_of_ble_eq_true rfl, Nat.le_of_ble_eq_true rfl⟩ rfl rfl (Nat.le_of_ble_eq_true rfl) dX8_compareCouples_101 ⟨Nat.le_of_ble_eq_true rfl, Nat.le_of_ble_eq_true rfl⟩ (fun u_14 H locs w_16 X => ?_)
        have X : Wd D A s [((r 0), .inr (6, [.long (0 : Int64), .long (0 : Int64)])), ((g 0), .inr (8, [.ref (w 0), .int (0 : Int32), .int (0 : Int32), .int (-1 : Int32), .int (0 : Int32), .long (0 : Int64), .long (0 : Int64), .long (0 : Int64)])), ((w 0), .inr (10, [.int (0 : Int32), .ref (w 1), .int (0 : Int32), .ref (w 2), .ref (w 3), .int (0 : Int32), .ref (w 4), .ref (w 5), .ref (w 6), .ref (w 7), .ref (w 8), .long (1 : Int64)])), ((w 6), .inl (cI, 160, .inl (fun _ => (0 : Int32))))] H locs := X
        refine W.widen (k := 0) (n := 0) (Nat.le_of_ble_eq_true rfl) (Nat.le_of_ble_eq_true rfl) ?_
        refine lv_iinc (v := (4 : Int32)) (lv' := [(10, .int (4 : Int32)), (9, .int (nI (v))), (7, .long (0 : Int64)), (5, .long (0 : Int64)), (0, .ref (g 0)), (1, .int part), (2, .int (nI (i))), (3, .int (nI (j))), (4, .ref (r 0))]) hx hb dX8_compareCouples_104 hl (k := 0) rfl (by decide) (by decide) rfl (fun ls hl => ?_)
        refine lv_goto (tgt := 89) hx hb dX8_compareCouples_107 (by decide) ?_
        refine lv_iload hx hb dX8_compareCouples_89 (lv_at hl 0 rfl) ?_
        refine lv_iconst (v := (4 : Int32)) hx hb dX8_compareCouples_91 (by decide) ?_
        refine lv_icmp_ge (tgt := 110) hx hb dX8_compareCouples_92 (by decide) (fun _ => ?_) (fun c0 => absurd (by decide) c0)
        refine lv_iinc (v := (nI (v + 1))) (lv' := [(9, .int (nI (v + 1))), (10, .int (4 : Int32)), (7, .long (0 : Int64)), (5, .long (0 : Int64)), (0, .ref (g 0)), (1, .int part), (2, .int (nI (i))), (3, .int (nI (j))), (4, .ref (r 0))]) hx hb dX8_compareCouples_110 hl (k := 1) rfl (nI_add _ 1) (by decide) rfl (fun ls hl => ?_)
        refine lv_goto (tgt := 80) hx hb dX8_compareCouples_113 (by decide) ?_
        exact ih80  (v + 1) H locs ls (by omega) (by omega) (x_sub X [1, 2, 3, 0] (by decide) rfl) (lv_sub hl [0, 2, 3, 4, 5, 6, 7, 8] rfl)
  exact L80 (j + 1 + 1) (i) H locs ls (by omega) (by omega) (x_sub X [0, 1, 2, 3] (by decide) rfl) (lv_sub hl [0, 1, 2, 3, 4, 5, 6, 7] rfl)
set_option maxHeartbeats 4000000 in
set_option maxRecDepth 100000 in
theorem c_putRight (l : Launch) (D : va_G) (cI cJ cZ cB : ClassId) (cO : ClassId) (g w r : Nat → Nat) (wk dy : Int32) :
    CV l D [(cI, .int), (cJ, .long), (cZ, .boolean), (cB, .byte), (cO, .object "LuckLinks$World")] yX8_putRight cX8_putRight 16 ({ frames := 2, cells := 0, slots := 0, locals := 46 } : Room) [.ref (g 0), .int wk, .int dy, .ref (r 0)] [((g 0), .inr (8, [.ref (w 0), .int (0 : Int32), .int (0 : Int32), .int (-1 : Int32), .int (0 : Int32), .long (0 : Int64), .long (0 : Int64), .long (0 : Int64)])), ((w 0), .inr (10, [.int (0 : Int32), .ref (w 1), .int (0 : Int32), .ref (w 2), .ref (w 3), .int (0 : Int32), .ref (w 4), .ref (w 5), .ref (w 6), .ref (w 7), .ref (w 8), .long (1 : Int64)])), ((r 0), .inr (6, [.long (0 : Int64), .long (0 : Int64)]))] (fun (u : Unit) => (True)) (fun (_ : Unit) => [((g 0), .inr (8, [.ref (w 0), .int (0 : Int32), .int (0 : Int32), .int (-1 : Int32), .int (0 : Int32), .long (0 : Int64), .long (0 : Int64), .long (0 : Int64)])), ((w 0), .inr (10, [.int (0 : Int32), .ref (w 1), .int (0 : Int32), .ref (w 2), .ref (w 3), .int (0 : Int32), .ref (w 4), .ref (w 5), .ref (w 6), .ref (w 7), .ref (w 8), .long (1 : Int64)])), ((r 0), .inr (6, [.long (0 : Int64), .long (0 : Int64)]))]) := by
  intro sz
  refine body_of (y := yX8_putRight) (cc := cX8_putRight) (maxL := 16) (ret := none) (rm := ({ frames := 2, cells := 0, slots := 0, locals := 46 } : Room)) (wc := [((g 0), .inr (8, [.ref (w 0), .int (0 : Int32), .int (0 : Int32), .int (-1 : Int32), .int (0 : Int32), .long (0 : Int64), .long (0 : Int64), .long (0 : Int64)])), ((w 0), .inr (10, [.int (0 : Int32), .ref (w 1), .int (0 : Int32), .ref (w 2), .ref (w 3), .int (0 : Int32), .ref (w 4), .ref (w 5), .ref (w 6), .ref (w 7), .ref (w 8), .long (1 : Int64)])), ((r 0), .inr (6, [.long (0 : Int64), .long (0 : Int64)]))]) (tys := [(cI, .int), (cJ, .long), (cZ, .boolean), (cB, .byte), (cO, .object "LuckLinks$World")]) (D := D) (sz := sz) (own := RX8) (av := [.ref (g 0), .int wk, .int dy, .ref (r 0)]) (Qc := fun A => va_Qv (fun (u : Unit) => (True)) (fun u t => Aft D A ((fun (_ : Unit) => [((g 0), .inr (8, [.ref (w 0), .int (0 : Int32), .int (0 : Int32), .int (-1 : Int32), .int (0 : Int32), .long (0 : Int64), .long (0 : Int64), .long (0 : Int64)])), ((w 0), .inr (10, [.int (0 : Int32), .ref (w 1), .int (0 : Int32), .ref (w 2), .ref (w 3), .int (0 : Int32), .ref (w 4), .ref (w 5), .ref (w 6), .ref (w 7), .ref (w 8), .long (1 : Int64)])), ((r 0), .inr (6, [.long (0 : Int64), .long (0 : Int64)]))]) u) t) A) (by decide) rfl (Nat.le_of_ble_eq_true rfl) (fun p e s m below meth c A ls C hr hlk hin X hl => ?_)
  have hx := C.1
  have hb := C.2.1
  have hown := C.2.2.2.1
  have hts := C.2.2.2.2.1
  have hl : lv_has ls 16 [(0, .ref (g 0)), (1, .int wk), (2, .int dy), (3, .ref (r 0))] := hl
  show W p l e _ s m _ below meth c s.heap [] 0 0 (MQ below (va_Qv (fun (u : Unit) => (True)) (fun u t => Aft D A ((fun (_ : Unit) => [((g 0), .inr (8, [.ref (w 0), .int (0 : Int32), .int (0 : Int32), .int (-1 : Int32), .int (0 : Int32), .long (0 : Int64), .long (0 : Int64), .long (0 : Int64)])), ((w 0), .inr (10, [.int (0 : Int32), .ref (w 1), .int (0 : Int32), .ref (w 2), .ref (w 3), .int (0 : Int32), .ref (w 4), .ref (w 5), .ref (w 6), .ref (w 7), .ref (w 8), .long (1 : Int64)])), ((r 0), .inr (6, [.long (0 : Int64), .long (0 : Int64)]))]) u) t) A) ([.ref (g 0), .int wk, .int dy, .ref (r 0)] : List Value).toArray s 0 0 A) (F0 m 0 ls [])
  have X : Wd D A s [((g 0), .inr (8, [.ref (w 0), .int (0 : Int32), .int (0 : Int32), .int (-1 : Int32), .int (0 : Int32), .long (0 : Int64), .long (0 : Int64), .long (0 : Int64)])), ((w 0), .inr (10, [.int (0 : Int32), .ref (w 1), .int (0 : Int32), .ref (w 2), .ref (w 3), .int (0 : Int32), .ref (w 4), .ref (w 5), .ref (w 6), .ref (w 7), .ref (w 8), .long (1 : Int64)])), ((r 0), .inr (6, [.long (0 : Int64), .long (0 : Int64)]))] s.heap [] := X
  obtain ⟨H, locs, eH, eL⟩ : ∃ H locs, H = s.heap ∧ locs = ([] : List Loc) := ⟨_, _, rfl, rfl⟩
  rw [← eH, ← eL] at X ⊢
  clear eH eL
  refine lv_lconst (v := (0 : Int64)) hx hb dX8_putRight_0 (by decide) ?_
  refine lv_lstore (lv' := [(4, .long (0 : Int64)), (0, .ref (g 0)), (1, .int wk), (2, .int dy), (3, .ref (r 0))]) hx hb dX8_putRight_1 hl (by decide) rfl (fun ls hl => ?_)
  refine lv_lconst (v := (0 : Int64)) hx hb dX8_putRight_3 (by decide) ?_
  refine lv_lstore (lv' := [(6, .long (0 : Int64)), (4, .long (0 : Int64)), (0, .ref (g 0)), (1, .int wk), (2, .int dy), (3, .ref (r 0))]) hx hb dX8_putRight_4 hl (by decide) rfl (fun ls hl => ?_)
  refine lv_lconst (v := (0 : Int64)) hx hb dX8_putRight_6 (by decide) ?_
  refine lv_lstore (lv' := [(8, .long (0 : Int64)), (6, .long (0 : Int64)), (4, .long (0 : Int64)), (0, .ref (g 0)), (1, .int wk), (2, .int dy), (3, .ref (r 0))]) hx hb dX8_putRight_7 hl (by decide) rfl (fun ls hl => ?_)
  refine lv_lconst (v := (0 : Int64)) hx hb dX8_putRight_9 (by decide) ?_
  refine lv_lstore (lv' := [(10, .long (0 : Int64)), (8, .long (0 : Int64)), (6, .long (0 : Int64)), (4, .long (0 : Int64)), (0, .ref (g 0)), (1, .int wk), (2, .int dy), (3, .ref (r 0))]) hx hb dX8_putRight_10 hl (by decide) rfl (fun ls hl => ?_)
  refine lv_lconst (v := (0 : Int64)) hx hb dX8_putRight_12 (by decide) ?_
  refine lv_lstore (lv' := [(12, .long (0 : Int64)), (10, .long (0 : Int64)), (8, .long (0 : Int64)), (6, .long (0 : Int64)), (4, .long (0 : Int64)), (0, .ref (g 0)), (1, .int wk), (2, .int dy), (3, .ref (r 0))]) hx hb dX8_putRight_13 hl (by decide) rfl (fun ls hl => ?_)
  refine lv_iconst (v := (0 : Int32)) hx hb dX8_putRight_15 (by decide) ?_
  refine lv_istore (lv' := [(14, .int (0 : Int32)), (12, .long (0 : Int64)), (10, .long (0 : Int64)), (8, .long (0 : Int64)), (6, .long (0 : Int64)), (4, .long (0 : Int64)), (0, .ref (g 0)), (1, .int wk), (2, .int dy), (3, .ref (r 0))]) hx hb dX8_putRight_16 hl (by decide) rfl (fun ls hl => ?_)
  refine lv_iload hx hb dX8_putRight_18 (lv_at hl 0 rfl) ?_
  refine lv_aload_n hx hb dX8_putRight_20 rfl (lv_at hl 6 rfl) ?_
  refine x_get (own := RX8) (T := TX8) C X 0 rfl rfl 0 (by decide) k_9_11 rfl rfl (v := .ref (w 0)) rfl dX8_putRight_21 ?_
  refine x_get (own := RX8) (T := TX10) C X 1 rfl rfl 0 (by decide) k_43_9 rfl rfl (v := .int (0 : Int32)) rfl dX8_putRight_24 ?_
  refine lv_icmp_ge (tgt := 131) hx hb dX8_putRight_27 (by decide) (fun _ => ?_) (fun c0 => absurd (by decide) c0)
  refine lv_ldc2 (own := RX8) (v := (2 : Int64)) hx hb hown (hts _ k_43_20) dX8_putRight_131 ?_
  refine lv_lload hx hb dX8_putRight_134 (lv_at hl 5 rfl) ?_
  refine lv_lmul hx hb dX8_putRight_136 ?_
  refine x_eql (show (2 : Int64) * (0 : Int64) = (0 : Int64) from by decide +kernel) ?_
  refine lv_lload hx hb dX8_putRight_137 (lv_at hl 4 rfl) ?_
  refine lv_lmul hx hb dX8_putRight_139 ?_
  refine x_eql (show (0 : Int64) * (0 : Int64) = (0 : Int64) from by decide +kernel) ?_
  refine lv_lload hx hb dX8_putRight_140 (lv_at hl 5 rfl) ?_
  refine lv_lload hx hb dX8_putRight_142 (lv_at hl 1 rfl) ?_
  refine lv_lmul hx hb dX8_putRight_144 ?_
  refine x_eql (show (0 : Int64) * (0 : Int64) = (0 : Int64) from by decide +kernel) ?_
  refine lv_ladd hx hb dX8_putRight_145 ?_
  refine x_eql (show (0 : Int64) + (0 : Int64) = (0 : Int64) from by decide +kernel) ?_
  refine lv_lload hx hb dX8_putRight_146 (lv_at hl 2 rfl) ?_
  refine lv_ldc2 (own := RX8) (v := (2 : Int64)) hx hb hown (hts _ k_43_20) dX8_putRight_148 ?_
  refine lv_lload hx hb dX8_putRight_151 (lv_at hl 4 rfl) ?_
  refine lv_lmul hx hb dX8_putRight_153 ?_
  refine x_eql (show (2 : Int64) * (0 : Int64) = (0 : Int64) from by decide +kernel) ?_
  refine lv_lload hx hb dX8_putRight_154 (lv_at hl 3 rfl) ?_
  refine lv_lsub hx hb dX8_putRight_156 ?_
  refine x_eql (show (0 : Int64) - (0 : Int64) = (0 : Int64) from by decide +kernel) ?_
  refine lv_lmul hx hb dX8_putRight_157 ?_
  refine x_eql (show (0 : Int64) * (0 : Int64) = (0 : Int64) from by decide +kernel) ?_
  refine lv_ladd hx hb dX8_putRight_158 ?_
  refine x_eql (show (0 : Int64) + (0 : Int64) = (0 : Int64) from by decide +kernel) ?_
  refine lv_lstore (lv' := [(14, .long (0 : Int64)), (12, .long (0 : Int64)), (10, .long (0 : Int64)), (8, .long (0 : Int64)), (6, .long (0 : Int64)), (4, .long (0 : Int64)), (0, .ref (g 0)), (1, .int wk), (2, .int dy), (3, .ref (r 0))]) hx hb dX8_putRight_159 hl (by decide) rfl (fun ls hl => ?_)
  refine lv_aload_n hx hb dX8_putRight_161 rfl (lv_at hl 9 rfl) ?_
  refine lv_lload hx hb dX8_putRight_162 (lv_at hl 0 rfl) ?_
  refine lv_ldc2 (own := RX8) (v := (2 : Int64)) hx hb hown (hts _ k_43_20) dX8_putRight_164 ?_
  refine lv_lload hx hb dX8_putRight_167 (lv_at hl 5 rfl) ?_
  refine lv_lmul hx hb dX8_putRight_169 ?_
  refine x_eql (show (2 : Int64) * (0 : Int64) = (0 : Int64) from by decide +kernel) ?_
  refine lv_lload hx hb dX8_putRight_170 (lv_at hl 5 rfl) ?_
  refine lv_lload hx hb dX8_putRight_172 (lv_at hl 2 rfl) ?_
  refine lv_ladd hx hb dX8_putRight_174 ?_
  refine x_eql (show (0 : Int64) + (0 : Int64) = (0 : Int64) from by decide +kernel) ?_
  refine lv_lmul hx hb dX8_putRight_175 ?_
  refine x_eql (show (0 : Int64) * (0 : Int64) = (0 : Int64) from by decide +kernel) ?_
  refine x_cVv (own := RX8) (wr := [((g 0), .inr (8, [.ref (w 0), .int (0 : Int32), .int (0 : Int32), .int (-1 : Int32), .int (0 : Int32), .long (0 : Int64), .long (0 : Int64), .long (0 : Int64)])), ((w 0), .inr (10, [.int (0 : Int32), .ref (w 1), .int (0 : Int32), .ref (w 2), .ref (w 3), .int (0 : Int32), .ref (w 4), .ref (w 5), .ref (w 6), .ref (w 7), .ref (w 8), .long (1 : Int64)]))]) (As := [.long (0 : Int64), .long (0 : Int64)]) C X hl.1 (c_set00 l D cI cJ cZ cB cO r) [2] [0, 1] ⟨rfl, rfl, by decide, by decide, by decide⟩ (qb := 0) rfl rfl k_44_10 k_44_11 k_44_12 k_2_11 k_44_13 (n := 2) (by decide +kernel) ⟨Nat.le_of_ble_eq_true rfl, Nat.le_of_ble_eq_true rfl⟩ rfl rfl (Nat.le_of_ble_eq_true rfl) dX8_putRight_176 ⟨Nat.le_of_ble_eq_true rfl, Nat.le_of_ble_eq_true rfl⟩ (fun u_1 H locs w_3 X => ?_)
  have X : Wd D A s [((g 0), .inr (8, [.ref (w 0), .int (0 : Int32), .int (0 : Int32), .int (-1 : Int32), .int (0 : Int32), .long (0 : Int64), .long (0 : Int64), .long (0 : Int64)])), ((w 0), .inr (10, [.int (0 : Int32), .ref (w 1), .int (0 : Int32), .ref (w 2), .ref (w 3), .int (0 : Int32), .ref (w 4), .ref (w 5), .ref (w 6), .ref (w 7), .ref (w 8), .long (1 : Int64)])), ((r 0), .inr (6, [.long (0 : Int64), .long (0 : Int64)]))] H locs := X
  refine W.widen (k := 0) (n := 0) (Nat.le_of_ble_eq_true rfl) (Nat.le_of_ble_eq_true rfl) ?_
  exact x_vret C X hr hlk (()) [0, 1, 2] (by decide) rfl (trivial) (Nat.le_of_ble_eq_true rfl) (Nat.le_of_ble_eq_true rfl) dX8_putRight_179
set_option maxHeartbeats 4000000 in
set_option maxRecDepth 100000 in
theorem c_weighHour (l : Launch) (D : va_G) (cI cJ cZ cB : ClassId) (cO : ClassId) (g w r : Nat → Nat) (hour : Int32) (i j : Nat) (hi : i ≤ j) (hj : j < 40) :
    CV l D [(cI, .int), (cJ, .long), (cZ, .boolean), (cB, .byte), (cO, .object "LuckLinks$World")] yX8_weighHour cX8_weighHour 19 ({ frames := 2, cells := 0, slots := 0, locals := 46 } : Room) [.ref (g 0), .int hour, .int (nI (i)), .int (nI (j)), .ref (r 0)] [((g 0), .inr (8, [.ref (w 0), .int (0 : Int32), .int (0 : Int32), .int (-1 : Int32), .int (0 : Int32), .long (0 : Int64), .long (0 : Int64), .long (0 : Int64)])), ((w 0), .inr (10, [.int (0 : Int32), .ref (w 1), .int (0 : Int32), .ref (w 2), .ref (w 3), .int (0 : Int32), .ref (w 4), .ref (w 5), .ref (w 6), .ref (w 7), .ref (w 8), .long (1 : Int64)])), ((w 6), .inl (cI, 160, .inl (fun _ => (0 : Int32)))), ((r 0), .inr (6, [.long (0 : Int64), .long (0 : Int64)]))] (fun (u : Unit) => (True)) (fun (_ : Unit) => [((g 0), .inr (8, [.ref (w 0), .int (0 : Int32), .int (0 : Int32), .int (-1 : Int32), .int (0 : Int32), .long (0 : Int64), .long (0 : Int64), .long (0 : Int64)])), ((w 0), .inr (10, [.int (0 : Int32), .ref (w 1), .int (0 : Int32), .ref (w 2), .ref (w 3), .int (0 : Int32), .ref (w 4), .ref (w 5), .ref (w 6), .ref (w 7), .ref (w 8), .long (1 : Int64)])), ((w 6), .inl (cI, 160, .inl (fun _ => (0 : Int32)))), ((r 0), .inr (6, [.long (0 : Int64), .long (0 : Int64)]))]) := by
  intro sz
  refine body_of (y := yX8_weighHour) (cc := cX8_weighHour) (maxL := 19) (ret := none) (rm := ({ frames := 2, cells := 0, slots := 0, locals := 46 } : Room)) (wc := [((g 0), .inr (8, [.ref (w 0), .int (0 : Int32), .int (0 : Int32), .int (-1 : Int32), .int (0 : Int32), .long (0 : Int64), .long (0 : Int64), .long (0 : Int64)])), ((w 0), .inr (10, [.int (0 : Int32), .ref (w 1), .int (0 : Int32), .ref (w 2), .ref (w 3), .int (0 : Int32), .ref (w 4), .ref (w 5), .ref (w 6), .ref (w 7), .ref (w 8), .long (1 : Int64)])), ((w 6), .inl (cI, 160, .inl (fun _ => (0 : Int32)))), ((r 0), .inr (6, [.long (0 : Int64), .long (0 : Int64)]))]) (tys := [(cI, .int), (cJ, .long), (cZ, .boolean), (cB, .byte), (cO, .object "LuckLinks$World")]) (D := D) (sz := sz) (own := RX8) (av := [.ref (g 0), .int hour, .int (nI (i)), .int (nI (j)), .ref (r 0)]) (Qc := fun A => va_Qv (fun (u : Unit) => (True)) (fun u t => Aft D A ((fun (_ : Unit) => [((g 0), .inr (8, [.ref (w 0), .int (0 : Int32), .int (0 : Int32), .int (-1 : Int32), .int (0 : Int32), .long (0 : Int64), .long (0 : Int64), .long (0 : Int64)])), ((w 0), .inr (10, [.int (0 : Int32), .ref (w 1), .int (0 : Int32), .ref (w 2), .ref (w 3), .int (0 : Int32), .ref (w 4), .ref (w 5), .ref (w 6), .ref (w 7), .ref (w 8), .long (1 : Int64)])), ((w 6), .inl (cI, 160, .inl (fun _ => (0 : Int32)))), ((r 0), .inr (6, [.long (0 : Int64), .long (0 : Int64)]))]) u) t) A) (by decide) rfl (Nat.le_of_ble_eq_true rfl) (fun p e s m below meth c A ls C hr hlk hin X hl => ?_)
  have hx := C.1
  have hb := C.2.1
  have hown := C.2.2.2.1
  have hts := C.2.2.2.2.1
  have hl : lv_has ls 19 [(0, .ref (g 0)), (1, .int hour), (2, .int (nI (i))), (3, .int (nI (j))), (4, .ref (r 0))] := hl
  show W p l e _ s m _ below meth c s.heap [] 0 0 (MQ below (va_Qv (fun (u : Unit) => (True)) (fun u t => Aft D A ((fun (_ : Unit) => [((g 0), .inr (8, [.ref (w 0), .int (0 : Int32), .int (0 : Int32), .int (-1 : Int32), .int (0 : Int32), .long (0 : Int64), .long (0 : Int64), .long (0 : Int64)])), ((w 0), .inr (10, [.int (0 : Int32), .ref (w 1), .int (0 : Int32), .ref (w 2), .ref (w 3), .int (0 : Int32), .ref (w 4), .ref (w 5), .ref (w 6), .ref (w 7), .ref (w 8), .long (1 : Int64)])), ((w 6), .inl (cI, 160, .inl (fun _ => (0 : Int32)))), ((r 0), .inr (6, [.long (0 : Int64), .long (0 : Int64)]))]) u) t) A) ([.ref (g 0), .int hour, .int (nI (i)), .int (nI (j)), .ref (r 0)] : List Value).toArray s 0 0 A) (F0 m 0 ls [])
  have X : Wd D A s [((g 0), .inr (8, [.ref (w 0), .int (0 : Int32), .int (0 : Int32), .int (-1 : Int32), .int (0 : Int32), .long (0 : Int64), .long (0 : Int64), .long (0 : Int64)])), ((w 0), .inr (10, [.int (0 : Int32), .ref (w 1), .int (0 : Int32), .ref (w 2), .ref (w 3), .int (0 : Int32), .ref (w 4), .ref (w 5), .ref (w 6), .ref (w 7), .ref (w 8), .long (1 : Int64)])), ((w 6), .inl (cI, 160, .inl (fun _ => (0 : Int32)))), ((r 0), .inr (6, [.long (0 : Int64), .long (0 : Int64)]))] s.heap [] := X
  obtain ⟨H, locs, eH, eL⟩ : ∃ H locs, H = s.heap ∧ locs = ([] : List Loc) := ⟨_, _, rfl, rfl⟩
  rw [← eH, ← eL] at X ⊢
  clear eH eL
  refine lv_lconst (v := (0 : Int64)) hx hb dX8_weighHour_0 (by decide) ?_
  refine lv_lstore (lv' := [(5, .long (0 : Int64)), (0, .ref (g 0)), (1, .int hour), (2, .int (nI (i))), (3, .int (nI (j))), (4, .ref (r 0))]) hx hb dX8_weighHour_1 hl (by decide) rfl (fun ls hl => ?_)
  refine lv_lconst (v := (0 : Int64)) hx hb dX8_weighHour_3 (by decide) ?_
  refine lv_lstore (lv' := [(7, .long (0 : Int64)), (5, .long (0 : Int64)), (0, .ref (g 0)), (1, .int hour), (2, .int (nI (i))), (3, .int (nI (j))), (4, .ref (r 0))]) hx hb dX8_weighHour_4 hl (by decide) rfl (fun ls hl => ?_)
  refine lv_iload_n hx hb dX8_weighHour_6 rfl (lv_at hl 4 rfl) ?_
  refine lv_istore (lv' := [(9, .int (nI (i))), (7, .long (0 : Int64)), (5, .long (0 : Int64)), (0, .ref (g 0)), (1, .int hour), (2, .int (nI (i))), (3, .int (nI (j))), (4, .ref (r 0))]) hx hb dX8_weighHour_7 hl (by decide) rfl (fun ls hl => ?_)
  have L9 : ∀ (n : Nat) (v : Nat) (H : Heap) (locs : List Loc) (ls : Array Slot), (h1 : v ≤ j + 1) → j + 1 < v + n → Wd D A s [((g 0), .inr (8, [.ref (w 0), .int (0 : Int32), .int (0 : Int32), .int (-1 : Int32), .int (0 : Int32), .long (0 : Int64), .long (0 : Int64), .long (0 : Int64)])), ((w 0), .inr (10, [.int (0 : Int32), .ref (w 1), .int (0 : Int32), .ref (w 2), .ref (w 3), .int (0 : Int32), .ref (w 4), .ref (w 5), .ref (w 6), .ref (w 7), .ref (w 8), .long (1 : Int64)])), ((w 6), .inl (cI, 160, .inl (fun _ => (0 : Int32)))), ((r 0), .inr (6, [.long (0 : Int64), .long (0 : Int64)]))] H locs → lv_has ls 19 [(9, .int (nI (v))), (7, .long (0 : Int64)), (5, .long (0 : Int64)), (0, .ref (g 0)), (1, .int hour), (2, .int (nI (i))), (3, .int (nI (j))), (4, .ref (r 0))] → W p l e ({ frames := 2, cells := 0, slots := 0, locals := 46 } : Room) s m ([.ref (g 0), .int hour, .int (nI (i)), .int (nI (j)), .ref (r 0)] : List Value).toArray below meth c H locs 0 0 (MQ below (va_Qv (fun (u : Unit) => (True)) (fun u t => Aft D A ((fun (_ : Unit) => [((g 0), .inr (8, [.ref (w 0), .int (0 : Int32), .int (0 : Int32), .int (-1 : Int32), .int (0 : Int32), .long (0 : Int64), .long (0 : Int64), .long (0 : Int64)])), ((w 0), .inr (10, [.int (0 : Int32), .ref (w 1), .int (0 : Int32), .ref (w 2), .ref (w 3), .int (0 : Int32), .ref (w 4), .ref (w 5), .ref (w 6), .ref (w 7), .ref (w 8), .long (1 : Int64)])), ((w 6), .inl (cI, 160, .inl (fun _ => (0 : Int32)))), ((r 0), .inr (6, [.long (0 : Int64), .long (0 : Int64)]))]) u) t) A) ([.ref (g 0), .int hour, .int (nI (i)), .int (nI (j)), .ref (r 0)] : List Value).toArray s 0 0 A) (F0 m 9 ls []) := by
    intro n
    induction n with
    | zero => intro v H locs ls h1 hn; exact absurd hn (by omega)
    | succ n ih =>
      intro v H locs ls h1 hn X hl
      have ih9 := ih
      refine lv_iload hx hb dX8_weighHour_9 (lv_at hl 0 rfl) ?_
      refine lv_iload_n hx hb dX8_weighHour_11 rfl (lv_at hl 6 rfl) ?_
      refine lv_icmp_gt (tgt := 181) hx hb dX8_weighHour_12 (by decide) (fun c_1 => ?_) (fun c_1 => ?_)
      · have fc_1 : ((j : Nat) : Int) < ((v : Nat) : Int) := (by have h9 := i_lt c_1; simp only [nI_toInt (n := j) (by omega), nI_toInt (n := v) (by omega)] at h9; exact h9)
        refine lv_aload hx hb dX8_weighHour_181 (lv_at hl 7 rfl) ?_
        refine lv_lload hx hb dX8_weighHour_183 (lv_at hl 2 rfl) ?_
        refine lv_lload hx hb dX8_weighHour_185 (lv_at hl 1 rfl) ?_
        refine x_cVv (own := RX8) (wr := [((g 0), .inr (8, [.ref (w 0), .int (0 : Int32), .int (0 : Int32), .int (-1 : Int32), .int (0 : Int32), .long (0 : Int64), .long (0 : Int64), .long (0 : Int64)])), ((w 0), .inr (10, [.int (0 : Int32), .ref (w 1), .int (0 : Int32), .ref (w 2), .ref (w 3), .int (0 : Int32), .ref (w 4), .ref (w 5), .ref (w 6), .ref (w 7), .ref (w 8), .long (1 : Int64)])), ((w 6), .inl (cI, 160, .inl (fun _ => (0 : Int32))))]) (As := [.long (0 : Int64), .long (0 : Int64)]) C X hl.1 (c_set00 l D cI cJ cZ cB cO r) [3] [0, 1, 2] ⟨rfl, rfl, by decide, by decide, by decide⟩ (qb := 0) rfl rfl k_44_10 k_44_11 k_44_12 k_2_11 k_44_13 (n := 2) (by decide +kernel) ⟨Nat.le_of_ble_eq_true rfl, Nat.le_of_ble_eq_true rfl⟩ rfl rfl (Nat.le_of_ble_eq_true rfl) dX8_weighHour_187 ⟨Nat.le_of_ble_eq_true rfl, Nat.le_of_ble_eq_true rfl⟩ (fun u_2 H locs w_4 X => ?_)
        have X : Wd D A s [((g 0), .inr (8, [.ref (w 0), .int (0 : Int32), .int (0 : Int32), .int (-1 : Int32), .int (0 : Int32), .long (0 : Int64), .long (0 : Int64), .long (0 : Int64)])), ((w 0), .inr (10, [.int (0 : Int32), .ref (w 1), .int (0 : Int32), .ref (w 2), .ref (w 3), .int (0 : Int32), .ref (w 4), .ref (w 5), .ref (w 6), .ref (w 7), .ref (w 8), .long (1 : Int64)])), ((w 6), .inl (cI, 160, .inl (fun _ => (0 : Int32)))), ((r 0), .inr (6, [.long (0 : Int64), .long (0 : Int64)]))] H locs := X
        refine W.widen (k := 0) (n := 0) (Nat.le_of_ble_eq_true rfl) (Nat.le_of_ble_eq_true rfl) ?_
        exact x_vret C X hr hlk (()) [0, 1, 2, 3] (by decide) rfl (trivial) (Nat.le_of_ble_eq_true rfl) (Nat.le_of_ble_eq_true rfl) dX8_weighHour_190
      · have fc_1 : ((v : Nat) : Int) ≤ ((j : Nat) : Int) := (by have h9 := i_nlt c_1; simp only [nI_toInt (n := j) (by omega), nI_toInt (n := v) (by omega)] at h9; exact h9)
        refine lv_iconst (v := (0 : Int32)) hx hb dX8_weighHour_15 (by decide) ?_
        refine lv_istore (lv' := [(10, .int (0 : Int32)), (9, .int (nI (v))), (7, .long (0 : Int64)), (5, .long (0 : Int64)), (0, .ref (g 0)), (1, .int hour), (2, .int (nI (i))), (3, .int (nI (j))), (4, .ref (r 0))]) hx hb dX8_weighHour_16 hl (by decide) rfl (fun ls hl => ?_)
        refine lv_iload hx hb dX8_weighHour_18 (lv_at hl 0 rfl) ?_
        refine lv_iconst (v := (4 : Int32)) hx hb dX8_weighHour_20 (by decide) ?_
        refine lv_icmp_ge (tgt := 175) hx hb dX8_weighHour_21 (by decide) (fun c0 => absurd c0 (by decide)) (fun _ => ?_)
        refine lv_aload_n hx hb dX8_weighHour_24 rfl (lv_at hl 4 rfl) ?_
        refine x_get (own := RX8) (T := TX8) C X 0 rfl rfl 0 (by decide) k_9_11 rfl rfl (v := .ref (w 0)) rfl dX8_weighHour_25 ?_
        refine lv_iload hx hb dX8_weighHour_28 (lv_at hl 1 rfl) ?_
        refine lv_iload hx hb dX8_weighHour_30 (lv_at hl 0 rfl) ?_
        refine x_cV (own := RX8) (wr := [((g 0), .inr (8, [.ref (w 0), .int (0 : Int32), .int (0 : Int32), .int (-1 : Int32), .int (0 : Int32), .long (0 : Int64), .long (0 : Int64), .long (0 : Int64)])), ((r 0), .inr (6, [.long (0 : Int64), .long (0 : Int64)]))]) (As := [.int (nI (v)), .int (0 : Int32)]) C X hl.1 (c_roundsOn l D cI cJ cZ cB cO w (nI (v)) (0 : Int32)) [1, 2] [0, 3] ⟨rfl, rfl, by decide, by decide, by decide⟩ (qb := 0) rfl rfl k_44_1 k_31_11 k_31_12 k_1_14 k_31_13 (n := 2) (by decide +kernel) ⟨Nat.le_of_ble_eq_true rfl, Nat.le_of_ble_eq_true rfl⟩ rfl rfl (Nat.le_of_ble_eq_true rfl) dX8_weighHour_32 ⟨Nat.le_of_ble_eq_true rfl, Nat.le_of_ble_eq_true rfl⟩ (fun r_6 u_5 H locs w_7 X => ?_)
        have X : Wd D A s [((g 0), .inr (8, [.ref (w 0), .int (0 : Int32), .int (0 : Int32), .int (-1 : Int32), .int (0 : Int32), .long (0 : Int64), .long (0 : Int64), .long (0 : Int64)])), ((r 0), .inr (6, [.long (0 : Int64), .long (0 : Int64)])), ((w 0), .inr (10, [.int (0 : Int32), .ref (w 1), .int (0 : Int32), .ref (w 2), .ref (w 3), .int (0 : Int32), .ref (w 4), .ref (w 5), .ref (w 6), .ref (w 7), .ref (w 8), .long (1 : Int64)])), ((w 6), .inl (cI, 160, .inl (fun _ => (0 : Int32))))] H locs := X
        refine W.widen (k := 0) (n := 0) (Nat.le_of_ble_eq_true rfl) (Nat.le_of_ble_eq_true rfl) ?_
        obtain ⟨rfl, fw_7⟩ : r_6 = (0 : Int32) ∧ True := w_7
        refine lv_if_le (tgt := 175) hx hb dX8_weighHour_35 (by decide) (fun _ => ?_) (fun c0 => absurd (by decide) c0)
        refine lv_iinc (v := (nI (v + 1))) (lv' := [(9, .int (nI (v + 1))), (10, .int (0 : Int32)), (7, .long (0 : Int64)), (5, .long (0 : Int64)), (0, .ref (g 0)), (1, .int hour), (2, .int (nI (i))), (3, .int (nI (j))), (4, .ref (r 0))]) hx hb dX8_weighHour_175 hl (k := 1) rfl (nI_add _ 1) (by decide) rfl (fun ls hl => ?_)
        refine lv_goto (tgt := 9) hx hb dX8_weighHour_178 (by decide) ?_
        exact ih9  (v + 1) H locs ls (by omega) (by omega) (x_sub X [0, 2, 3, 1] (by decide) rfl) (lv_sub hl [0, 2, 3, 4, 5, 6, 7, 8] rfl)
  exact L9 (j + 1 + 1) (i) H locs ls (by omega) (by omega) (x_sub X [0, 1, 2, 3] (by decide) rfl) (lv_sub hl [0, 1, 2, 3, 4, 5, 6, 7] rfl)
set_option maxHeartbeats 4000000 in
set_option maxRecDepth 100000 in
theorem c_findOther (l : Launch) (D : va_G) (cI cJ cZ cB : ClassId) (cO : ClassId) (g w : Nat → Nat) :
    CV l D [(cI, .int), (cJ, .long), (cZ, .boolean), (cB, .byte), (cO, .object "LuckLinks$World")] yX8_findOther cX8_findOther 4 ({ frames := 0, cells := 0, slots := 0, locals := 0 } : Room) [.ref (g 0)] [((g 0), .inr (8, [.ref (w 0), .int (0 : Int32), .int (0 : Int32), .int (-1 : Int32), .int (0 : Int32), .long (0 : Int64), .long (0 : Int64), .long (0 : Int64)])), ((w 0), .inr (10, [.int (0 : Int32), .ref (w 1), .int (0 : Int32), .ref (w 2), .ref (w 3), .int (0 : Int32), .ref (w 4), .ref (w 5), .ref (w 6), .ref (w 7), .ref (w 8), .long (1 : Int64)]))] (fun (u : Unit) => (True)) (fun (_ : Unit) => [((g 0), .inr (8, [.ref (w 0), .int (0 : Int32), .int (0 : Int32), .int (-1 : Int32), .int (0 : Int32), .long (0 : Int64), .long (0 : Int64), .long (0 : Int64)])), ((w 0), .inr (10, [.int (0 : Int32), .ref (w 1), .int (0 : Int32), .ref (w 2), .ref (w 3), .int (0 : Int32), .ref (w 4), .ref (w 5), .ref (w 6), .ref (w 7), .ref (w 8), .long (1 : Int64)]))]) := by
  intro sz
  refine body_of (y := yX8_findOther) (cc := cX8_findOther) (maxL := 4) (ret := none) (rm := ({ frames := 0, cells := 0, slots := 0, locals := 0 } : Room)) (wc := [((g 0), .inr (8, [.ref (w 0), .int (0 : Int32), .int (0 : Int32), .int (-1 : Int32), .int (0 : Int32), .long (0 : Int64), .long (0 : Int64), .long (0 : Int64)])), ((w 0), .inr (10, [.int (0 : Int32), .ref (w 1), .int (0 : Int32), .ref (w 2), .ref (w 3), .int (0 : Int32), .ref (w 4), .ref (w 5), .ref (w 6), .ref (w 7), .ref (w 8), .long (1 : Int64)]))]) (tys := [(cI, .int), (cJ, .long), (cZ, .boolean), (cB, .byte), (cO, .object "LuckLinks$World")]) (D := D) (sz := sz) (own := RX8) (av := [.ref (g 0)]) (Qc := fun A => va_Qv (fun (u : Unit) => (True)) (fun u t => Aft D A ((fun (_ : Unit) => [((g 0), .inr (8, [.ref (w 0), .int (0 : Int32), .int (0 : Int32), .int (-1 : Int32), .int (0 : Int32), .long (0 : Int64), .long (0 : Int64), .long (0 : Int64)])), ((w 0), .inr (10, [.int (0 : Int32), .ref (w 1), .int (0 : Int32), .ref (w 2), .ref (w 3), .int (0 : Int32), .ref (w 4), .ref (w 5), .ref (w 6), .ref (w 7), .ref (w 8), .long (1 : Int64)]))]) u) t) A) (by decide) rfl (Nat.le_of_ble_eq_true rfl) (fun p e s m below meth c A ls C hr hlk hin X hl => ?_)
  have hx := C.1
  have hb := C.2.1
  have hown := C.2.2.2.1
  have hts := C.2.2.2.2.1
  have hl : lv_has ls 4 [(0, .ref (g 0))] := hl
  show W p l e _ s m _ below meth c s.heap [] 0 0 (MQ below (va_Qv (fun (u : Unit) => (True)) (fun u t => Aft D A ((fun (_ : Unit) => [((g 0), .inr (8, [.ref (w 0), .int (0 : Int32), .int (0 : Int32), .int (-1 : Int32), .int (0 : Int32), .long (0 : Int64), .long (0 : Int64), .long (0 : Int64)])), ((w 0), .inr (10, [.int (0 : Int32), .ref (w 1), .int (0 : Int32), .ref (w 2), .ref (w 3), .int (0 : Int32), .ref (w 4), .ref (w 5), .ref (w 6), .ref (w 7), .ref (w 8), .long (1 : Int64)]))]) u) t) A) ([.ref (g 0)] : List Value).toArray s 0 0 A) (F0 m 0 ls [])
  have X : Wd D A s [((g 0), .inr (8, [.ref (w 0), .int (0 : Int32), .int (0 : Int32), .int (-1 : Int32), .int (0 : Int32), .long (0 : Int64), .long (0 : Int64), .long (0 : Int64)])), ((w 0), .inr (10, [.int (0 : Int32), .ref (w 1), .int (0 : Int32), .ref (w 2), .ref (w 3), .int (0 : Int32), .ref (w 4), .ref (w 5), .ref (w 6), .ref (w 7), .ref (w 8), .long (1 : Int64)]))] s.heap [] := X
  obtain ⟨H, locs, eH, eL⟩ : ∃ H locs, H = s.heap ∧ locs = ([] : List Loc) := ⟨_, _, rfl, rfl⟩
  rw [← eH, ← eL] at X ⊢
  clear eH eL
  refine lv_aload_n hx hb dX8_findOther_0 rfl (lv_at hl 0 rfl) ?_
  refine lv_iconst (v := (-1 : Int32)) hx hb dX8_findOther_1 (by decide) ?_
  refine x_put (own := RX8) (T := TX8) C X 0 rfl rfl 3 (by decide) k_9_6 rfl rfl rfl (ty := .int) (v := .int (-1 : Int32)) (by decide +kernel) rfl rfl (Nat.le_of_ble_eq_true rfl) dX8_findOther_2 (fun H locs X => ?_)
  have X : Wd D A s [((g 0), .inr (8, [.ref (w 0), .int (0 : Int32), .int (0 : Int32), .int (-1 : Int32), .int (0 : Int32), .long (0 : Int64), .long (0 : Int64), .long (0 : Int64)])), ((w 0), .inr (10, [.int (0 : Int32), .ref (w 1), .int (0 : Int32), .ref (w 2), .ref (w 3), .int (0 : Int32), .ref (w 4), .ref (w 5), .ref (w 6), .ref (w 7), .ref (w 8), .long (1 : Int64)]))] H locs := X
  refine lv_aload_n hx hb dX8_findOther_5 rfl (lv_at hl 0 rfl) ?_
  refine lv_iconst (v := (0 : Int32)) hx hb dX8_findOther_6 (by decide) ?_
  refine x_put (own := RX8) (T := TX8) C X 0 rfl rfl 4 (by decide) k_9_7 rfl rfl rfl (ty := .int) (v := .int (0 : Int32)) (by decide +kernel) rfl rfl (Nat.le_of_ble_eq_true rfl) dX8_findOther_7 (fun H locs X => ?_)
  have X : Wd D A s [((g 0), .inr (8, [.ref (w 0), .int (0 : Int32), .int (0 : Int32), .int (-1 : Int32), .int (0 : Int32), .long (0 : Int64), .long (0 : Int64), .long (0 : Int64)])), ((w 0), .inr (10, [.int (0 : Int32), .ref (w 1), .int (0 : Int32), .ref (w 2), .ref (w 3), .int (0 : Int32), .ref (w 4), .ref (w 5), .ref (w 6), .ref (w 7), .ref (w 8), .long (1 : Int64)]))] H locs := X
  refine lv_iconst (v := (0 : Int32)) hx hb dX8_findOther_10 (by decide) ?_
  refine lv_istore_n (lv' := [(1, .int (0 : Int32)), (0, .ref (g 0))]) hx hb dX8_findOther_11 rfl hl (by decide) rfl (fun ls hl => ?_)
  refine lv_iload_n hx hb dX8_findOther_12 rfl (lv_at hl 0 rfl) ?_
  refine lv_aload_n hx hb dX8_findOther_13 rfl (lv_at hl 1 rfl) ?_
  refine x_get (own := RX8) (T := TX8) C X 0 rfl rfl 0 (by decide) k_9_11 rfl rfl (v := .ref (w 0)) rfl dX8_findOther_14 ?_
  refine x_get (own := RX8) (T := TX10) C X 1 rfl rfl 0 (by decide) k_43_9 rfl rfl (v := .int (0 : Int32)) rfl dX8_findOther_17 ?_
  refine lv_icmp_ge (tgt := 91) hx hb dX8_findOther_20 (by decide) (fun _ => ?_) (fun c0 => absurd (by decide) c0)
  exact x_vret C X hr hlk (()) [0, 1] (by decide) rfl (trivial) (Nat.le_of_ble_eq_true rfl) (Nat.le_of_ble_eq_true rfl) dX8_findOther_91
set_option maxHeartbeats 4000000 in
set_option maxRecDepth 100000 in
theorem c_gatherHalf (l : Launch) (D : va_G) (cI cJ cZ cB : ClassId) (cO : ClassId) (g w : Nat → Nat) (a1 a2 : Nat) (f1 f2 : Nat → Int64) (part : Int32) (i j : Nat) (hi : i ≤ j) (hj : j < 40) :
    CV l D [(cI, .int), (cJ, .long), (cZ, .boolean), (cB, .byte), (cO, .object "LuckLinks$World")] yX2_gatherHalf cX2_gatherHalf 9 ({ frames := 2, cells := 0, slots := 0, locals := 47 } : Room) [.ref (g 0), .int part, .int (nI (i)), .int (nI (j)), .ref a1, .ref a2] [((g 0), .inr (2, [.ref (w 0), .ref (g 1), .ref (g 2), .ref (g 3), .ref (g 4), .int (0 : Int32), .int (0 : Int32), .int (0 : Int32)])), (a1, .inl (cJ, 20, .inr (.inl (f1)))), (a2, .inl (cJ, 20, .inr (.inl (f2)))), ((w 0), .inr (10, [.int (0 : Int32), .ref (w 1), .int (0 : Int32), .ref (w 2), .ref (w 3), .int (0 : Int32), .ref (w 4), .ref (w 5), .ref (w 6), .ref (w 7), .ref (w 8), .long (1 : Int64)])), ((w 4), .inl (cI, 3200, .inl (fun _ => (-1 : Int32))))] (fun (u : Unit) => (True)) (fun (_ : Unit) => [((g 0), .inr (2, [.ref (w 0), .ref (g 1), .ref (g 2), .ref (g 3), .ref (g 4), .int (0 : Int32), .int (0 : Int32), .int (0 : Int32)])), (a1, .inl (cJ, 20, .inr (.inl (fun _ => (0 : Int64))))), (a2, .inl (cJ, 20, .inr (.inl (fun _ => (0 : Int64))))), ((w 0), .inr (10, [.int (0 : Int32), .ref (w 1), .int (0 : Int32), .ref (w 2), .ref (w 3), .int (0 : Int32), .ref (w 4), .ref (w 5), .ref (w 6), .ref (w 7), .ref (w 8), .long (1 : Int64)])), ((w 4), .inl (cI, 3200, .inl (fun _ => (-1 : Int32))))]) := by
  intro sz
  refine body_of (y := yX2_gatherHalf) (cc := cX2_gatherHalf) (maxL := 9) (ret := none) (rm := ({ frames := 2, cells := 0, slots := 0, locals := 47 } : Room)) (wc := [((g 0), .inr (2, [.ref (w 0), .ref (g 1), .ref (g 2), .ref (g 3), .ref (g 4), .int (0 : Int32), .int (0 : Int32), .int (0 : Int32)])), (a1, .inl (cJ, 20, .inr (.inl (f1)))), (a2, .inl (cJ, 20, .inr (.inl (f2)))), ((w 0), .inr (10, [.int (0 : Int32), .ref (w 1), .int (0 : Int32), .ref (w 2), .ref (w 3), .int (0 : Int32), .ref (w 4), .ref (w 5), .ref (w 6), .ref (w 7), .ref (w 8), .long (1 : Int64)])), ((w 4), .inl (cI, 3200, .inl (fun _ => (-1 : Int32))))]) (tys := [(cI, .int), (cJ, .long), (cZ, .boolean), (cB, .byte), (cO, .object "LuckLinks$World")]) (D := D) (sz := sz) (own := RX2) (av := [.ref (g 0), .int part, .int (nI (i)), .int (nI (j)), .ref a1, .ref a2]) (Qc := fun A => va_Qv (fun (u : Unit) => (True)) (fun u t => Aft D A ((fun (_ : Unit) => [((g 0), .inr (2, [.ref (w 0), .ref (g 1), .ref (g 2), .ref (g 3), .ref (g 4), .int (0 : Int32), .int (0 : Int32), .int (0 : Int32)])), (a1, .inl (cJ, 20, .inr (.inl (fun _ => (0 : Int64))))), (a2, .inl (cJ, 20, .inr (.inl (fun _ => (0 : Int64))))), ((w 0), .inr (10, [.int (0 : Int32), .ref (w 1), .int (0 : Int32), .ref (w 2), .ref (w 3), .int (0 : Int32), .ref (w 4), .ref (w 5), .ref (w 6), .ref (w 7), .ref (w 8), .long (1 : Int64)])), ((w 4), .inl (cI, 3200, .inl (fun _ => (-1 : Int32))))]) u) t) A) (by decide) rfl (Nat.le_of_ble_eq_true rfl) (fun p e s m below meth c A ls C hr hlk hin X hl => ?_)
  have hx := C.1
  have hb := C.2.1
  have hown := C.2.2.2.1
  have hts := C.2.2.2.2.1
  have hl : lv_has ls 9 [(0, .ref (g 0)), (1, .int part), (2, .int (nI (i))), (3, .int (nI (j))), (4, .ref a1), (5, .ref a2)] := hl
  show W p l e _ s m _ below meth c s.heap [] 0 0 (MQ below (va_Qv (fun (u : Unit) => (True)) (fun u t => Aft D A ((fun (_ : Unit) => [((g 0), .inr (2, [.ref (w 0), .ref (g 1), .ref (g 2), .ref (g 3), .ref (g 4), .int (0 : Int32), .int (0 : Int32), .int (0 : Int32)])), (a1, .inl (cJ, 20, .inr (.inl (fun _ => (0 : Int64))))), (a2, .inl (cJ, 20, .inr (.inl (fun _ => (0 : Int64))))), ((w 0), .inr (10, [.int (0 : Int32), .ref (w 1), .int (0 : Int32), .ref (w 2), .ref (w 3), .int (0 : Int32), .ref (w 4), .ref (w 5), .ref (w 6), .ref (w 7), .ref (w 8), .long (1 : Int64)])), ((w 4), .inl (cI, 3200, .inl (fun _ => (-1 : Int32))))]) u) t) A) ([.ref (g 0), .int part, .int (nI (i)), .int (nI (j)), .ref a1, .ref a2] : List Value).toArray s 0 0 A) (F0 m 0 ls [])
  have X : Wd D A s [((g 0), .inr (2, [.ref (w 0), .ref (g 1), .ref (g 2), .ref (g 3), .ref (g 4), .int (0 : Int32), .int (0 : Int32), .int (0 : Int32)])), (a1, .inl (cJ, 20, .inr (.inl (f1)))), (a2, .inl (cJ, 20, .inr (.inl (f2)))), ((w 0), .inr (10, [.int (0 : Int32), .ref (w 1), .int (0 : Int32), .ref (w 2), .ref (w 3), .int (0 : Int32), .ref (w 4), .ref (w 5), .ref (w 6), .ref (w 7), .ref (w 8), .long (1 : Int64)])), ((w 4), .inl (cI, 3200, .inl (fun _ => (-1 : Int32))))] s.heap [] := X
  obtain ⟨H, locs, eH, eL⟩ : ∃ H locs, H = s.heap ∧ locs = ([] : List Loc) := ⟨_, _, rfl, rfl⟩
  rw [← eH, ← eL] at X ⊢
  clear eH eL
  refine lv_iconst (v := (0 : Int32)) hx hb dX2_gatherHalf_0 (by decide) ?_
  refine lv_istore (lv' := [(6, .int (0 : Int32)), (0, .ref (g 0)), (1, .int part), (2, .int (nI (i))), (3, .int (nI (j))), (4, .ref a1), (5, .ref a2)]) hx hb dX2_gatherHalf_1 hl (by decide) rfl (fun ls hl => ?_)
  have L3 : ∀ (n : Nat) (k : Nat) (d1 : Nat → Int64) (d2 : Nat → Int64) (H : Heap) (locs : List Loc) (ls : Array Slot), (h1 : k ≤ 20) → (h2 : ∀ q, q < k → d1 q = 0) → (h3 : ∀ q, q < k → d2 q = 0) → 20 < k + n → Wd D A s [((g 0), .inr (2, [.ref (w 0), .ref (g 1), .ref (g 2), .ref (g 3), .ref (g 4), .int (0 : Int32), .int (0 : Int32), .int (0 : Int32)])), (a1, .inl (cJ, 20, .inr (.inl (d1)))), (a2, .inl (cJ, 20, .inr (.inl (d2)))), ((w 0), .inr (10, [.int (0 : Int32), .ref (w 1), .int (0 : Int32), .ref (w 2), .ref (w 3), .int (0 : Int32), .ref (w 4), .ref (w 5), .ref (w 6), .ref (w 7), .ref (w 8), .long (1 : Int64)])), ((w 4), .inl (cI, 3200, .inl (fun _ => (-1 : Int32))))] H locs → lv_has ls 9 [(6, .int (nI (k))), (0, .ref (g 0)), (1, .int part), (2, .int (nI (i))), (3, .int (nI (j))), (4, .ref a1), (5, .ref a2)] → W p l e ({ frames := 2, cells := 0, slots := 0, locals := 47 } : Room) s m ([.ref (g 0), .int part, .int (nI (i)), .int (nI (j)), .ref a1, .ref a2] : List Value).toArray below meth c H locs 0 0 (MQ below (va_Qv (fun (u : Unit) => (True)) (fun u t => Aft D A ((fun (_ : Unit) => [((g 0), .inr (2, [.ref (w 0), .ref (g 1), .ref (g 2), .ref (g 3), .ref (g 4), .int (0 : Int32), .int (0 : Int32), .int (0 : Int32)])), (a1, .inl (cJ, 20, .inr (.inl (fun _ => (0 : Int64))))), (a2, .inl (cJ, 20, .inr (.inl (fun _ => (0 : Int64))))), ((w 0), .inr (10, [.int (0 : Int32), .ref (w 1), .int (0 : Int32), .ref (w 2), .ref (w 3), .int (0 : Int32), .ref (w 4), .ref (w 5), .ref (w 6), .ref (w 7), .ref (w 8), .long (1 : Int64)])), ((w 4), .inl (cI, 3200, .inl (fun _ => (-1 : Int32))))]) u) t) A) ([.ref (g 0), .int part, .int (nI (i)), .int (nI (j)), .ref a1, .ref a2] : List Value).toArray s 0 0 A) (F0 m 3 ls []) := by
    intro n
    induction n with
    | zero => intro k d1 d2 H locs ls h1 h2 h3 hn; exact absurd hn (by omega)
    | succ n ih =>
      intro k d1 d2 H locs ls h1 h2 h3 hn X hl
      have ih3 := ih
      refine lv_iload hx hb dX2_gatherHalf_3 (lv_at hl 0 rfl) ?_
      refine lv_bipush (v := (20 : Int32)) hx hb dX2_gatherHalf_5 (by decide) ?_
      refine lv_icmp_ge (tgt := 105) hx hb dX2_gatherHalf_7 (by decide) (fun c_1 => ?_) (fun c_1 => ?_)
      · have fc_1 : (20 : Int) ≤ ((k : Nat) : Int) := (by have h9 := i_le c_1; simp only [nI_toInt (n := k) (by omega)] at h9; exact h9)
        have X := x_cng X 1 rfl (arr_eql _ _ (g := fun _ => (0 : Int64)) (fun k h => h2 k (by omega)))
        have X : Wd D A s [((g 0), .inr (2, [.ref (w 0), .ref (g 1), .ref (g 2), .ref (g 3), .ref (g 4), .int (0 : Int32), .int (0 : Int32), .int (0 : Int32)])), (a1, .inl (cJ, 20, .inr (.inl (fun _ => (0 : Int64))))), (a2, .inl (cJ, 20, .inr (.inl (d2)))), ((w 0), .inr (10, [.int (0 : Int32), .ref (w 1), .int (0 : Int32), .ref (w 2), .ref (w 3), .int (0 : Int32), .ref (w 4), .ref (w 5), .ref (w 6), .ref (w 7), .ref (w 8), .long (1 : Int64)])), ((w 4), .inl (cI, 3200, .inl (fun _ => (-1 : Int32))))] H locs := X
        have X := x_cng X 2 rfl (arr_eql _ _ (g := fun _ => (0 : Int64)) (fun k h => h3 k (by omega)))
        have X : Wd D A s [((g 0), .inr (2, [.ref (w 0), .ref (g 1), .ref (g 2), .ref (g 3), .ref (g 4), .int (0 : Int32), .int (0 : Int32), .int (0 : Int32)])), (a1, .inl (cJ, 20, .inr (.inl (fun _ => (0 : Int64))))), (a2, .inl (cJ, 20, .inr (.inl (fun _ => (0 : Int64))))), ((w 0), .inr (10, [.int (0 : Int32), .ref (w 1), .int (0 : Int32), .ref (w 2), .ref (w 3), .int (0 : Int32), .ref (w 4), .ref (w 5), .ref (w 6), .ref (w 7), .ref (w 8), .long (1 : Int64)])), ((w 4), .inl (cI, 3200, .inl (fun _ => (-1 : Int32))))] H locs := X
        exact x_vret C X hr hlk (()) [0, 1, 2, 3, 4] (by decide) rfl (trivial) (Nat.le_of_ble_eq_true rfl) (Nat.le_of_ble_eq_true rfl) dX2_gatherHalf_105
      · have fc_1 : ((k : Nat) : Int) < (20 : Int) := (by have h9 := i_nle c_1; simp only [nI_toInt (n := k) (by omega)] at h9; exact h9)
        refine lv_aload hx hb dX2_gatherHalf_10 (lv_at hl 5 rfl) ?_
        refine lv_iload hx hb dX2_gatherHalf_12 (lv_at hl 0 rfl) ?_
        refine lv_lconst (v := (0 : Int64)) hx hb dX2_gatherHalf_14 (by decide) ?_
        refine x_last C X 1 1 rfl rfl (j := k) (nI_clamp (by omega)) (vp_in_nI (by omega) (by omega)) dX2_gatherHalf_15 (fun H locs X => ?_)
        have X : Wd D A s [((g 0), .inr (2, [.ref (w 0), .ref (g 1), .ref (g 2), .ref (g 3), .ref (g 4), .int (0 : Int32), .int (0 : Int32), .int (0 : Int32)])), (a1, .inl (cJ, 20, .inr (.inl (vp_updL (d1) (k) ((0 : Int64)))))), (a2, .inl (cJ, 20, .inr (.inl (d2)))), ((w 0), .inr (10, [.int (0 : Int32), .ref (w 1), .int (0 : Int32), .ref (w 2), .ref (w 3), .int (0 : Int32), .ref (w 4), .ref (w 5), .ref (w 6), .ref (w 7), .ref (w 8), .long (1 : Int64)])), ((w 4), .inl (cI, 3200, .inl (fun _ => (-1 : Int32))))] H locs := X
        refine lv_aload hx hb dX2_gatherHalf_16 (lv_at hl 6 rfl) ?_
        refine lv_iload hx hb dX2_gatherHalf_18 (lv_at hl 0 rfl) ?_
        refine lv_lconst (v := (0 : Int64)) hx hb dX2_gatherHalf_20 (by decide) ?_
        refine x_last C X 2 1 rfl rfl (j := k) (nI_clamp (by omega)) (vp_in_nI (by omega) (by omega)) dX2_gatherHalf_21 (fun H locs X => ?_)
        have X : Wd D A s [((g 0), .inr (2, [.ref (w 0), .ref (g 1), .ref (g 2), .ref (g 3), .ref (g 4), .int (0 : Int32), .int (0 : Int32), .int (0 : Int32)])), (a1, .inl (cJ, 20, .inr (.inl (vp_updL (d1) (k) ((0 : Int64)))))), (a2, .inl (cJ, 20, .inr (.inl (vp_updL (d2) (k) ((0 : Int64)))))), ((w 0), .inr (10, [.int (0 : Int32), .ref (w 1), .int (0 : Int32), .ref (w 2), .ref (w 3), .int (0 : Int32), .ref (w 4), .ref (w 5), .ref (w 6), .ref (w 7), .ref (w 8), .long (1 : Int64)])), ((w 4), .inl (cI, 3200, .inl (fun _ => (-1 : Int32))))] H locs := X
        refine lv_iload_n hx hb dX2_gatherHalf_22 rfl (lv_at hl 3 rfl) ?_
        refine lv_istore (lv' := [(7, .int (nI (i))), (6, .int (nI (k))), (0, .ref (g 0)), (1, .int part), (2, .int (nI (i))), (3, .int (nI (j))), (4, .ref a1), (5, .ref a2)]) hx hb dX2_gatherHalf_23 hl (by decide) rfl (fun ls hl => ?_)
        have L25 : ∀ (n : Nat) (v : Nat) (H : Heap) (locs : List Loc) (ls : Array Slot), (g1 : v ≤ j + 1) → j + 1 < v + n → Wd D A s [((g 0), .inr (2, [.ref (w 0), .ref (g 1), .ref (g 2), .ref (g 3), .ref (g 4), .int (0 : Int32), .int (0 : Int32), .int (0 : Int32)])), (a1, .inl (cJ, 20, .inr (.inl (vp_updL (d1) (k) ((0 : Int64)))))), (a2, .inl (cJ, 20, .inr (.inl (vp_updL (d2) (k) ((0 : Int64)))))), ((w 0), .inr (10, [.int (0 : Int32), .ref (w 1), .int (0 : Int32), .ref (w 2), .ref (w 3), .int (0 : Int32), .ref (w 4), .ref (w 5), .ref (w 6), .ref (w 7), .ref (w 8), .long (1 : Int64)])), ((w 4), .inl (cI, 3200, .inl (fun _ => (-1 : Int32))))] H locs → lv_has ls 9 [(7, .int (nI (v))), (6, .int (nI (k))), (0, .ref (g 0)), (1, .int part), (2, .int (nI (i))), (3, .int (nI (j))), (4, .ref a1), (5, .ref a2)] → W p l e ({ frames := 2, cells := 0, slots := 0, locals := 47 } : Room) s m ([.ref (g 0), .int part, .int (nI (i)), .int (nI (j)), .ref a1, .ref a2] : List Value).toArray below meth c H locs 0 0 (MQ below (va_Qv (fun (u : Unit) => (True)) (fun u t => Aft D A ((fun (_ : Unit) => [((g 0), .inr (2, [.ref (w 0), .ref (g 1), .ref (g 2), .ref (g 3), .ref (g 4), .int (0 : Int32), .int (0 : Int32), .int (0 : Int32)])), (a1, .inl (cJ, 20, .inr (.inl (fun _ => (0 : Int64))))), (a2, .inl (cJ, 20, .inr (.inl (fun _ => (0 : Int64))))), ((w 0), .inr (10, [.int (0 : Int32), .ref (w 1), .int (0 : Int32), .ref (w 2), .ref (w 3), .int (0 : Int32), .ref (w 4), .ref (w 5), .ref (w 6), .ref (w 7), .ref (w 8), .long (1 : Int64)])), ((w 4), .inl (cI, 3200, .inl (fun _ => (-1 : Int32))))]) u) t) A) ([.ref (g 0), .int part, .int (nI (i)), .int (nI (j)), .ref a1, .ref a2] : List Value).toArray s 0 0 A) (F0 m 25 ls []) := by
          intro n
          induction n with
          | zero => intro v H locs ls g1 hn; exact absurd hn (by omega)
          | succ n ih =>
            intro v H locs ls g1 hn X hl
            have ih25 := ih
            refine lv_iload hx hb dX2_gatherHalf_25 (lv_at hl 0 rfl) ?_
            refine lv_iload_n hx hb dX2_gatherHalf_27 rfl (lv_at hl 5 rfl) ?_
            refine lv_icmp_gt (tgt := 99) hx hb dX2_gatherHalf_28 (by decide) (fun c_2 => ?_) (fun c_2 => ?_)
            · have fc_2 : ((j : Nat) : Int) < ((v : Nat) : Int) := (by have h9 := i_lt c_2; simp only [nI_toInt (n := j) (by omega), nI_toInt (n := v) (by omega)] at h9; exact h9)
              refine lv_iinc (v := (nI (k + 1))) (lv' := [(6, .int (nI (k + 1))), (7, .int (nI (v))), (0, .ref (g 0)), (1, .int part), (2, .int (nI (i))), (3, .int (nI (j))), (4, .ref a1), (5, .ref a2)]) hx hb dX2_gatherHalf_99 hl (k := 1) rfl (nI_add _ 1) (by decide) rfl (fun ls hl => ?_)
              refine lv_goto (tgt := 3) hx hb dX2_gatherHalf_102 (by decide) ?_
              exact ih3  (k + 1) (vp_updL (d1) (k) ((0 : Int64))) (vp_updL (d2) (k) ((0 : Int64))) H locs ls (by omega) (fun q h => by unfold vp_updL; split; rfl; exact h2 q (by omega)) (fun q h => by unfold vp_updL; split; rfl; exact h3 q (by omega)) (by omega) (x_sub X [0, 1, 2, 3, 4] (by decide) rfl) (lv_sub hl [0, 2, 3, 4, 5, 6, 7] rfl)
            · have fc_2 : ((v : Nat) : Int) ≤ ((j : Nat) : Int) := (by have h9 := i_nlt c_2; simp only [nI_toInt (n := j) (by omega), nI_toInt (n := v) (by omega)] at h9; exact h9)
              refine lv_iconst (v := (0 : Int32)) hx hb dX2_gatherHalf_31 (by decide) ?_
              refine lv_istore (lv' := [(8, .int (0 : Int32)), (7, .int (nI (v))), (6, .int (nI (k))), (0, .ref (g 0)), (1, .int part), (2, .int (nI (i))), (3, .int (nI (j))), (4, .ref a1), (5, .ref a2)]) hx hb dX2_gatherHalf_32 hl (by decide) rfl (fun ls hl => ?_)
              refine lv_iload hx hb dX2_gatherHalf_34 (lv_at hl 0 rfl) ?_
              refine lv_iconst (v := (4 : Int32)) hx hb dX2_gatherHalf_36 (by decide) ?_
              refine lv_icmp_ge (tgt := 93) hx hb dX2_gatherHalf_37 (by decide) (fun c0 => absurd c0 (by decide)) (fun _ => ?_)
              refine lv_aload_n hx hb dX2_gatherHalf_40 rfl (lv_at hl 3 rfl) ?_
              refine x_get (own := RX2) (T := TX2) C X 0 rfl rfl 0 (by decide) k_8_10 rfl rfl (v := .ref (w 0)) rfl dX2_gatherHalf_41 ?_
              refine lv_iload hx hb dX2_gatherHalf_44 (lv_at hl 2 rfl) ?_
              refine lv_iload hx hb dX2_gatherHalf_46 (lv_at hl 1 rfl) ?_
              refine lv_iload hx hb dX2_gatherHalf_48 (lv_at hl 0 rfl) ?_
              refine x_cV (own := RX2) (wr := [((g 0), .inr (2, [.ref (w 0), .ref (g 1), .ref (g 2), .ref (g 3), .ref (g 4), .int (0 : Int32), .int (0 : Int32), .int (0 : Int32)])), (a1, .inl (cJ, 20, .inr (.inl (vp_updL (d1) (k) ((0 : Int64)))))), (a2, .inl (cJ, 20, .inr (.inl (vp_updL (d2) (k) ((0 : Int64))))))]) (As := [.int (nI (k)), .int (nI (v)), .int (0 : Int32)]) C X hl.1 (c_hasRound l D cI cJ cZ cB cO w (nI (k)) (nI (v)) (0 : Int32)) [3, 4] [0, 1, 2] ⟨rfl, rfl, by decide, by decide, by decide⟩ (qb := 0) rfl rfl k_55_21 k_15_10 k_15_11 k_1_14 k_15_12 (n := 3) (by decide +kernel) ⟨Nat.le_of_ble_eq_true rfl, Nat.le_of_ble_eq_true rfl⟩ rfl rfl (Nat.le_of_ble_eq_true rfl) dX2_gatherHalf_50 ⟨Nat.le_of_ble_eq_true rfl, Nat.le_of_ble_eq_true rfl⟩ (fun r_4 u_3 H locs w_5 X => ?_)
              have X : Wd D A s [((g 0), .inr (2, [.ref (w 0), .ref (g 1), .ref (g 2), .ref (g 3), .ref (g 4), .int (0 : Int32), .int (0 : Int32), .int (0 : Int32)])), (a1, .inl (cJ, 20, .inr (.inl (vp_updL (d1) (k) ((0 : Int64)))))), (a2, .inl (cJ, 20, .inr (.inl (vp_updL (d2) (k) ((0 : Int64)))))), ((w 0), .inr (10, [.int (0 : Int32), .ref (w 1), .int (0 : Int32), .ref (w 2), .ref (w 3), .int (0 : Int32), .ref (w 4), .ref (w 5), .ref (w 6), .ref (w 7), .ref (w 8), .long (1 : Int64)])), ((w 4), .inl (cI, 3200, .inl (fun _ => (-1 : Int32))))] H locs := X
              refine W.widen (k := 0) (n := 0) (Nat.le_of_ble_eq_true rfl) (Nat.le_of_ble_eq_true rfl) ?_
              obtain ⟨rfl, fw_5⟩ : r_4 = (0 : Int32) ∧ True := w_5
              refine lv_if_eq (tgt := 93) hx hb dX2_gatherHalf_53 (by decide) (fun _ => ?_) (fun c0 => absurd (by decide) c0)
              refine lv_iinc (v := (nI (v + 1))) (lv' := [(7, .int (nI (v + 1))), (8, .int (0 : Int32)), (6, .int (nI (k))), (0, .ref (g 0)), (1, .int part), (2, .int (nI (i))), (3, .int (nI (j))), (4, .ref a1), (5, .ref a2)]) hx hb dX2_gatherHalf_93 hl (k := 1) rfl (nI_add _ 1) (by decide) rfl (fun ls hl => ?_)
              refine lv_goto (tgt := 25) hx hb dX2_gatherHalf_96 (by decide) ?_
              exact ih25  (v + 1) H locs ls (by omega) (by omega) (x_sub X [0, 1, 2, 3, 4] (by decide) rfl) (lv_sub hl [0, 2, 3, 4, 5, 6, 7, 8] rfl)
        exact L25 (j + 1 + 1) (i) H locs ls (by omega) (by omega) (x_sub X [0, 1, 2, 3, 4] (by decide) rfl) (lv_sub hl [0, 1, 2, 3, 4, 5, 6, 7] rfl)
  exact L3 (20 + 1) (0) (f1) (f2) H locs ls (by omega) (fun q h => absurd h (by omega)) (fun q h => absurd h (by omega)) (by omega) (x_sub X [0, 1, 2, 3, 4] (by decide) rfl) (lv_sub hl [0, 1, 2, 3, 4, 5, 6] rfl)
set_option maxHeartbeats 4000000 in
set_option maxRecDepth 100000 in
theorem c_isInBoth (l : Launch) (D : va_G) (cI cJ cZ cB : ClassId) (cO : ClassId) (g w : Nat → Nat) (k : Nat) (hk : k < 20) :
    CI l D [(cI, .int), (cJ, .long), (cZ, .boolean), (cB, .byte), (cO, .object "LuckLinks$World")] yX2_isInBoth cX2_isInBoth 2 (some .boolean) ({ frames := 0, cells := 0, slots := 0, locals := 0 } : Room) [.ref (g 0), .int (nI (k))] [((g 0), .inr (2, [.ref (w 0), .ref (g 1), .ref (g 2), .ref (g 3), .ref (g 4), .int (0 : Int32), .int (0 : Int32), .int (0 : Int32)])), ((g 2), .inl (cJ, 20, .inr (.inl (fun _ => (0 : Int64)))))] (fun (r : Int32) (u : Unit) => (r = (0 : Int32) ∧ True)) (fun (_ : Unit) => [((g 0), .inr (2, [.ref (w 0), .ref (g 1), .ref (g 2), .ref (g 3), .ref (g 4), .int (0 : Int32), .int (0 : Int32), .int (0 : Int32)])), ((g 2), .inl (cJ, 20, .inr (.inl (fun _ => (0 : Int64)))))]) := by
  intro sz
  refine body_of (y := yX2_isInBoth) (cc := cX2_isInBoth) (maxL := 2) (ret := (some .boolean)) (rm := ({ frames := 0, cells := 0, slots := 0, locals := 0 } : Room)) (wc := [((g 0), .inr (2, [.ref (w 0), .ref (g 1), .ref (g 2), .ref (g 3), .ref (g 4), .int (0 : Int32), .int (0 : Int32), .int (0 : Int32)])), ((g 2), .inl (cJ, 20, .inr (.inl (fun _ => (0 : Int64)))))]) (tys := [(cI, .int), (cJ, .long), (cZ, .boolean), (cB, .byte), (cO, .object "LuckLinks$World")]) (D := D) (sz := sz) (own := RX2) (av := [.ref (g 0), .int (nI (k))]) (Qc := fun A => va_Qi (fun (r : Int32) (u : Unit) => (r = (0 : Int32) ∧ True)) (fun u t => Aft D A ((fun (_ : Unit) => [((g 0), .inr (2, [.ref (w 0), .ref (g 1), .ref (g 2), .ref (g 3), .ref (g 4), .int (0 : Int32), .int (0 : Int32), .int (0 : Int32)])), ((g 2), .inl (cJ, 20, .inr (.inl (fun _ => (0 : Int64)))))]) u) t) A) (by decide) rfl (Nat.le_of_ble_eq_true rfl) (fun p e s m below meth c A ls C hr hlk hin X hl => ?_)
  have hx := C.1
  have hb := C.2.1
  have hown := C.2.2.2.1
  have hts := C.2.2.2.2.1
  have hl : lv_has ls 2 [(0, .ref (g 0)), (1, .int (nI (k)))] := hl
  show W p l e _ s m _ below meth c s.heap [] 0 0 (MQ below (va_Qi (fun (r : Int32) (u : Unit) => (r = (0 : Int32) ∧ True)) (fun u t => Aft D A ((fun (_ : Unit) => [((g 0), .inr (2, [.ref (w 0), .ref (g 1), .ref (g 2), .ref (g 3), .ref (g 4), .int (0 : Int32), .int (0 : Int32), .int (0 : Int32)])), ((g 2), .inl (cJ, 20, .inr (.inl (fun _ => (0 : Int64)))))]) u) t) A) ([.ref (g 0), .int (nI (k))] : List Value).toArray s 0 0 A) (F0 m 0 ls [])
  have X : Wd D A s [((g 0), .inr (2, [.ref (w 0), .ref (g 1), .ref (g 2), .ref (g 3), .ref (g 4), .int (0 : Int32), .int (0 : Int32), .int (0 : Int32)])), ((g 2), .inl (cJ, 20, .inr (.inl (fun _ => (0 : Int64)))))] s.heap [] := X
  obtain ⟨H, locs, eH, eL⟩ : ∃ H locs, H = s.heap ∧ locs = ([] : List Loc) := ⟨_, _, rfl, rfl⟩
  rw [← eH, ← eL] at X ⊢
  clear eH eL
  refine lv_aload_n hx hb dX2_isInBoth_0 rfl (lv_at hl 0 rfl) ?_
  refine x_get (own := RX2) (T := TX2) C X 0 rfl rfl 2 (by decide) k_8_4 rfl rfl (v := .ref (g 2)) rfl dX2_isInBoth_1 ?_
  refine lv_iload_n hx hb dX2_isInBoth_4 rfl (lv_at hl 1 rfl) ?_
  refine x_lald C X 1 1 rfl rfl (j := k) (nI_clamp (by omega)) (vp_in_nI (by omega) (by omega)) (v := (0 : Int64)) (rfl) dX2_isInBoth_5 ?_
  refine lv_lconst (v := (0 : Int64)) hx hb dX2_isInBoth_6 (by decide) ?_
  refine W.lcmp hx hb dX2_isInBoth_7 ?_
  refine x_eqi (show lg_cmp (0 : Int64) (0 : Int64) = (0 : Int32) by decide) ?_
  refine lv_if_le (tgt := 26) hx hb dX2_isInBoth_8 (by decide) (fun _ => ?_) (fun c0 => absurd (by decide) c0)
  refine lv_iconst (v := (0 : Int32)) hx hb dX2_isInBoth_26 (by decide) ?_
  exact x_iret C X hr hlk (v := (0 : Int32)) (by first | rfl | decide) (()) [0, 1] (by decide) rfl (⟨rfl, trivial⟩) (Nat.le_of_ble_eq_true rfl) (Nat.le_of_ble_eq_true rfl) dX2_isInBoth_27
set_option maxHeartbeats 4000000 in
set_option maxRecDepth 100000 in
theorem c_compareHalves (l : Launch) (D : va_G) (cI cJ cZ cB : ClassId) (cO : ClassId) (g w : Nat → Nat) (part : Int32) (i h j : Nat) (hi : i < h) (hh : h ≤ j) (hj : j < 40) :
    CV l D [(cI, .int), (cJ, .long), (cZ, .boolean), (cB, .byte), (cO, .object "LuckLinks$World")] yX2_compareHalves cX2_compareHalves 6 ({ frames := 3, cells := 0, slots := 0, locals := 75 } : Room) [.ref (g 0), .int part, .int (nI (i)), .int (nI (h)), .int (nI (j))] [((g 0), .inr (2, [.ref (w 0), .ref (g 1), .ref (g 2), .ref (g 3), .ref (g 4), .int (0 : Int32), .int (0 : Int32), .int (0 : Int32)])), ((g 1), .inl (cJ, 20, .inr (.inl (fun _ => (0 : Int64))))), ((g 2), .inl (cJ, 20, .inr (.inl (fun _ => (0 : Int64))))), ((g 3), .inl (cJ, 20, .inr (.inl (fun _ => (0 : Int64))))), ((g 4), .inl (cJ, 20, .inr (.inl (fun _ => (0 : Int64))))), ((w 0), .inr (10, [.int (0 : Int32), .ref (w 1), .int (0 : Int32), .ref (w 2), .ref (w 3), .int (0 : Int32), .ref (w 4), .ref (w 5), .ref (w 6), .ref (w 7), .ref (w 8), .long (1 : Int64)])), ((w 4), .inl (cI, 3200, .inl (fun _ => (-1 : Int32))))] (fun (u : Unit) => (True)) (fun (_ : Unit) => [((g 0), .inr (2, [.ref (w 0), .ref (g 1), .ref (g 2), .ref (g 3), .ref (g 4), .int (0 : Int32), .int (0 : Int32), .int (0 : Int32)])), ((g 1), .inl (cJ, 20, .inr (.inl (fun _ => (0 : Int64))))), ((g 2), .inl (cJ, 20, .inr (.inl (fun _ => (0 : Int64))))), ((g 3), .inl (cJ, 20, .inr (.inl (fun _ => (0 : Int64))))), ((g 4), .inl (cJ, 20, .inr (.inl (fun _ => (0 : Int64))))), ((w 0), .inr (10, [.int (0 : Int32), .ref (w 1), .int (0 : Int32), .ref (w 2), .ref (w 3), .int (0 : Int32), .ref (w 4), .ref (w 5), .ref (w 6), .ref (w 7), .ref (w 8), .long (1 : Int64)])), ((w 4), .inl (cI, 3200, .inl (fun _ => (-1 : Int32))))]) := by
  intro sz
  refine body_of (y := yX2_compareHalves) (cc := cX2_compareHalves) (maxL := 6) (ret := none) (rm := ({ frames := 3, cells := 0, slots := 0, locals := 75 } : Room)) (wc := [((g 0), .inr (2, [.ref (w 0), .ref (g 1), .ref (g 2), .ref (g 3), .ref (g 4), .int (0 : Int32), .int (0 : Int32), .int (0 : Int32)])), ((g 1), .inl (cJ, 20, .inr (.inl (fun _ => (0 : Int64))))), ((g 2), .inl (cJ, 20, .inr (.inl (fun _ => (0 : Int64))))), ((g 3), .inl (cJ, 20, .inr (.inl (fun _ => (0 : Int64))))), ((g 4), .inl (cJ, 20, .inr (.inl (fun _ => (0 : Int64))))), ((w 0), .inr (10, [.int (0 : Int32), .ref (w 1), .int (0 : Int32), .ref (w 2), .ref (w 3), .int (0 : Int32), .ref (w 4), .ref (w 5), .ref (w 6), .ref (w 7), .ref (w 8), .long (1 : Int64)])), ((w 4), .inl (cI, 3200, .inl (fun _ => (-1 : Int32))))]) (tys := [(cI, .int), (cJ, .long), (cZ, .boolean), (cB, .byte), (cO, .object "LuckLinks$World")]) (D := D) (sz := sz) (own := RX2) (av := [.ref (g 0), .int part, .int (nI (i)), .int (nI (h)), .int (nI (j))]) (Qc := fun A => va_Qv (fun (u : Unit) => (True)) (fun u t => Aft D A ((fun (_ : Unit) => [((g 0), .inr (2, [.ref (w 0), .ref (g 1), .ref (g 2), .ref (g 3), .ref (g 4), .int (0 : Int32), .int (0 : Int32), .int (0 : Int32)])), ((g 1), .inl (cJ, 20, .inr (.inl (fun _ => (0 : Int64))))), ((g 2), .inl (cJ, 20, .inr (.inl (fun _ => (0 : Int64))))), ((g 3), .inl (cJ, 20, .inr (.inl (fun _ => (0 : Int64))))), ((g 4), .inl (cJ, 20, .inr (.inl (fun _ => (0 : Int64))))), ((w 0), .inr (10, [.int (0 : Int32), .ref (w 1), .int (0 : Int32), .ref (w 2), .ref (w 3), .int (0 : Int32), .ref (w 4), .ref (w 5), .ref (w 6), .ref (w 7), .ref (w 8), .long (1 : Int64)])), ((w 4), .inl (cI, 3200, .inl (fun _ => (-1 : Int32))))]) u) t) A) (by decide) rfl (Nat.le_of_ble_eq_true rfl) (fun p e s m below meth c A ls C hr hlk hin X hl => ?_)
  have hx := C.1
  have hb := C.2.1
  have hown := C.2.2.2.1
  have hts := C.2.2.2.2.1
  have hl : lv_has ls 6 [(0, .ref (g 0)), (1, .int part), (2, .int (nI (i))), (3, .int (nI (h))), (4, .int (nI (j)))] := hl
  show W p l e _ s m _ below meth c s.heap [] 0 0 (MQ below (va_Qv (fun (u : Unit) => (True)) (fun u t => Aft D A ((fun (_ : Unit) => [((g 0), .inr (2, [.ref (w 0), .ref (g 1), .ref (g 2), .ref (g 3), .ref (g 4), .int (0 : Int32), .int (0 : Int32), .int (0 : Int32)])), ((g 1), .inl (cJ, 20, .inr (.inl (fun _ => (0 : Int64))))), ((g 2), .inl (cJ, 20, .inr (.inl (fun _ => (0 : Int64))))), ((g 3), .inl (cJ, 20, .inr (.inl (fun _ => (0 : Int64))))), ((g 4), .inl (cJ, 20, .inr (.inl (fun _ => (0 : Int64))))), ((w 0), .inr (10, [.int (0 : Int32), .ref (w 1), .int (0 : Int32), .ref (w 2), .ref (w 3), .int (0 : Int32), .ref (w 4), .ref (w 5), .ref (w 6), .ref (w 7), .ref (w 8), .long (1 : Int64)])), ((w 4), .inl (cI, 3200, .inl (fun _ => (-1 : Int32))))]) u) t) A) ([.ref (g 0), .int part, .int (nI (i)), .int (nI (h)), .int (nI (j))] : List Value).toArray s 0 0 A) (F0 m 0 ls [])
  have X : Wd D A s [((g 0), .inr (2, [.ref (w 0), .ref (g 1), .ref (g 2), .ref (g 3), .ref (g 4), .int (0 : Int32), .int (0 : Int32), .int (0 : Int32)])), ((g 1), .inl (cJ, 20, .inr (.inl (fun _ => (0 : Int64))))), ((g 2), .inl (cJ, 20, .inr (.inl (fun _ => (0 : Int64))))), ((g 3), .inl (cJ, 20, .inr (.inl (fun _ => (0 : Int64))))), ((g 4), .inl (cJ, 20, .inr (.inl (fun _ => (0 : Int64))))), ((w 0), .inr (10, [.int (0 : Int32), .ref (w 1), .int (0 : Int32), .ref (w 2), .ref (w 3), .int (0 : Int32), .ref (w 4), .ref (w 5), .ref (w 6), .ref (w 7), .ref (w 8), .long (1 : Int64)])), ((w 4), .inl (cI, 3200, .inl (fun _ => (-1 : Int32))))] s.heap [] := X
  obtain ⟨H, locs, eH, eL⟩ : ∃ H locs, H = s.heap ∧ locs = ([] : List Loc) := ⟨_, _, rfl, rfl⟩
  rw [← eH, ← eL] at X ⊢
  clear eH eL
  refine lv_aload_n hx hb dX2_compareHalves_0 rfl (lv_at hl 0 rfl) ?_
  refine lv_iload_n hx hb dX2_compareHalves_1 rfl (lv_at hl 1 rfl) ?_
  refine lv_iload_n hx hb dX2_compareHalves_2 rfl (lv_at hl 2 rfl) ?_
  refine lv_iload_n hx hb dX2_compareHalves_3 rfl (lv_at hl 3 rfl) ?_
  refine lv_iconst (v := (1 : Int32)) hx hb dX2_compareHalves_4 (by decide) ?_
  refine lv_isub hx hb dX2_compareHalves_5 ?_
  refine x_eqi (show (nI (h)) - (1 : Int32) = (nI (h - 1)) from pk_sub (a := h) (b := 1) (by omega)) ?_
  refine lv_aload_n hx hb dX2_compareHalves_6 rfl (lv_at hl 0 rfl) ?_
  refine x_get (own := RX2) (T := TX2) C X 0 rfl rfl 1 (by decide) k_8_3 rfl rfl (v := .ref (g 1)) rfl dX2_compareHalves_7 ?_
  refine lv_aload_n hx hb dX2_compareHalves_10 rfl (lv_at hl 0 rfl) ?_
  refine x_get (own := RX2) (T := TX2) C X 0 rfl rfl 2 (by decide) k_8_4 rfl rfl (v := .ref (g 2)) rfl dX2_compareHalves_11 ?_
  refine x_cVv (own := RX2) (wr := [((g 3), .inl (cJ, 20, .inr (.inl (fun _ => (0 : Int64))))), ((g 4), .inl (cJ, 20, .inr (.inl (fun _ => (0 : Int64)))))]) (As := [.int part, .int (nI (i)), .int (nI (h - 1)), .ref (g 1), .ref (g 2)]) C X hl.1 (c_gatherHalf l D cI cJ cZ cB cO g w (g 1) (g 2) (fun _ => (0 : Int64)) (fun _ => (0 : Int64)) part i (h - 1) (by omega) (by omega)) [0, 1, 2, 5, 6] [3, 4] ⟨rfl, rfl, by decide, by decide, by decide⟩ (qb := 0) rfl rfl k_55_17 k_55_18 k_55_19 k_3_3 k_55_20 (n := 5) (by decide +kernel) ⟨Nat.le_of_ble_eq_true rfl, Nat.le_of_ble_eq_true rfl⟩ rfl rfl (Nat.le_of_ble_eq_true rfl) dX2_compareHalves_14 ⟨Nat.le_of_ble_eq_true rfl, Nat.le_of_ble_eq_true rfl⟩ (fun u_1 H locs w_3 X => ?_)
  have X : Wd D A s [((g 3), .inl (cJ, 20, .inr (.inl (fun _ => (0 : Int64))))), ((g 4), .inl (cJ, 20, .inr (.inl (fun _ => (0 : Int64))))), ((g 0), .inr (2, [.ref (w 0), .ref (g 1), .ref (g 2), .ref (g 3), .ref (g 4), .int (0 : Int32), .int (0 : Int32), .int (0 : Int32)])), ((g 1), .inl (cJ, 20, .inr (.inl (fun _ => (0 : Int64))))), ((g 2), .inl (cJ, 20, .inr (.inl (fun _ => (0 : Int64))))), ((w 0), .inr (10, [.int (0 : Int32), .ref (w 1), .int (0 : Int32), .ref (w 2), .ref (w 3), .int (0 : Int32), .ref (w 4), .ref (w 5), .ref (w 6), .ref (w 7), .ref (w 8), .long (1 : Int64)])), ((w 4), .inl (cI, 3200, .inl (fun _ => (-1 : Int32))))] H locs := X
  refine W.widen (k := 0) (n := 0) (Nat.le_of_ble_eq_true rfl) (Nat.le_of_ble_eq_true rfl) ?_
  refine lv_aload_n hx hb dX2_compareHalves_17 rfl (lv_at hl 0 rfl) ?_
  refine lv_iload_n hx hb dX2_compareHalves_18 rfl (lv_at hl 1 rfl) ?_
  refine lv_iload_n hx hb dX2_compareHalves_19 rfl (lv_at hl 3 rfl) ?_
  refine lv_iload hx hb dX2_compareHalves_20 (lv_at hl 4 rfl) ?_
  refine lv_aload_n hx hb dX2_compareHalves_22 rfl (lv_at hl 0 rfl) ?_
  refine x_get (own := RX2) (T := TX2) C X 2 rfl rfl 3 (by decide) k_8_5 rfl rfl (v := .ref (g 3)) rfl dX2_compareHalves_23 ?_
  refine lv_aload_n hx hb dX2_compareHalves_26 rfl (lv_at hl 0 rfl) ?_
  refine x_get (own := RX2) (T := TX2) C X 2 rfl rfl 4 (by decide) k_8_6 rfl rfl (v := .ref (g 4)) rfl dX2_compareHalves_27 ?_
  refine x_cVv (own := RX2) (wr := [((g 1), .inl (cJ, 20, .inr (.inl (fun _ => (0 : Int64))))), ((g 2), .inl (cJ, 20, .inr (.inl (fun _ => (0 : Int64)))))]) (As := [.int part, .int (nI (h)), .int (nI (j)), .ref (g 3), .ref (g 4)]) C X hl.1 (c_gatherHalf l D cI cJ cZ cB cO g w (g 3) (g 4) (fun _ => (0 : Int64)) (fun _ => (0 : Int64)) part h j (by omega) (by omega)) [2, 0, 1, 5, 6] [3, 4] ⟨rfl, rfl, by decide, by decide, by decide⟩ (qb := 0) rfl rfl k_55_17 k_55_18 k_55_19 k_3_3 k_55_20 (n := 5) (by decide +kernel) ⟨Nat.le_of_ble_eq_true rfl, Nat.le_of_ble_eq_true rfl⟩ rfl rfl (Nat.le_of_ble_eq_true rfl) dX2_compareHalves_30 ⟨Nat.le_of_ble_eq_true rfl, Nat.le_of_ble_eq_true rfl⟩ (fun u_4 H locs w_6 X => ?_)
  have X : Wd D A s [((g 1), .inl (cJ, 20, .inr (.inl (fun _ => (0 : Int64))))), ((g 2), .inl (cJ, 20, .inr (.inl (fun _ => (0 : Int64))))), ((g 0), .inr (2, [.ref (w 0), .ref (g 1), .ref (g 2), .ref (g 3), .ref (g 4), .int (0 : Int32), .int (0 : Int32), .int (0 : Int32)])), ((g 3), .inl (cJ, 20, .inr (.inl (fun _ => (0 : Int64))))), ((g 4), .inl (cJ, 20, .inr (.inl (fun _ => (0 : Int64))))), ((w 0), .inr (10, [.int (0 : Int32), .ref (w 1), .int (0 : Int32), .ref (w 2), .ref (w 3), .int (0 : Int32), .ref (w 4), .ref (w 5), .ref (w 6), .ref (w 7), .ref (w 8), .long (1 : Int64)])), ((w 4), .inl (cI, 3200, .inl (fun _ => (-1 : Int32))))] H locs := X
  refine W.widen (k := 0) (n := 0) (Nat.le_of_ble_eq_true rfl) (Nat.le_of_ble_eq_true rfl) ?_
  refine lv_aload_n hx hb dX2_compareHalves_33 rfl (lv_at hl 0 rfl) ?_
  refine lv_iconst (v := (0 : Int32)) hx hb dX2_compareHalves_34 (by decide) ?_
  refine x_put (own := RX2) (T := TX2) C X 2 rfl rfl 5 (by decide) k_8_7 rfl rfl rfl (ty := .int) (v := .int (0 : Int32)) (by decide +kernel) rfl rfl (Nat.le_of_ble_eq_true rfl) dX2_compareHalves_35 (fun H locs X => ?_)
  have X : Wd D A s [((g 1), .inl (cJ, 20, .inr (.inl (fun _ => (0 : Int64))))), ((g 2), .inl (cJ, 20, .inr (.inl (fun _ => (0 : Int64))))), ((g 0), .inr (2, [.ref (w 0), .ref (g 1), .ref (g 2), .ref (g 3), .ref (g 4), .int (0 : Int32), .int (0 : Int32), .int (0 : Int32)])), ((g 3), .inl (cJ, 20, .inr (.inl (fun _ => (0 : Int64))))), ((g 4), .inl (cJ, 20, .inr (.inl (fun _ => (0 : Int64))))), ((w 0), .inr (10, [.int (0 : Int32), .ref (w 1), .int (0 : Int32), .ref (w 2), .ref (w 3), .int (0 : Int32), .ref (w 4), .ref (w 5), .ref (w 6), .ref (w 7), .ref (w 8), .long (1 : Int64)])), ((w 4), .inl (cI, 3200, .inl (fun _ => (-1 : Int32))))] H locs := X
  refine lv_aload_n hx hb dX2_compareHalves_38 rfl (lv_at hl 0 rfl) ?_
  refine lv_iconst (v := (0 : Int32)) hx hb dX2_compareHalves_39 (by decide) ?_
  refine x_put (own := RX2) (T := TX2) C X 2 rfl rfl 6 (by decide) k_8_8 rfl rfl rfl (ty := .int) (v := .int (0 : Int32)) (by decide +kernel) rfl rfl (Nat.le_of_ble_eq_true rfl) dX2_compareHalves_40 (fun H locs X => ?_)
  have X : Wd D A s [((g 1), .inl (cJ, 20, .inr (.inl (fun _ => (0 : Int64))))), ((g 2), .inl (cJ, 20, .inr (.inl (fun _ => (0 : Int64))))), ((g 0), .inr (2, [.ref (w 0), .ref (g 1), .ref (g 2), .ref (g 3), .ref (g 4), .int (0 : Int32), .int (0 : Int32), .int (0 : Int32)])), ((g 3), .inl (cJ, 20, .inr (.inl (fun _ => (0 : Int64))))), ((g 4), .inl (cJ, 20, .inr (.inl (fun _ => (0 : Int64))))), ((w 0), .inr (10, [.int (0 : Int32), .ref (w 1), .int (0 : Int32), .ref (w 2), .ref (w 3), .int (0 : Int32), .ref (w 4), .ref (w 5), .ref (w 6), .ref (w 7), .ref (w 8), .long (1 : Int64)])), ((w 4), .inl (cI, 3200, .inl (fun _ => (-1 : Int32))))] H locs := X
  refine lv_aload_n hx hb dX2_compareHalves_43 rfl (lv_at hl 0 rfl) ?_
  refine lv_iconst (v := (0 : Int32)) hx hb dX2_compareHalves_44 (by decide) ?_
  refine x_put (own := RX2) (T := TX2) C X 2 rfl rfl 7 (by decide) k_8_9 rfl rfl rfl (ty := .int) (v := .int (0 : Int32)) (by decide +kernel) rfl rfl (Nat.le_of_ble_eq_true rfl) dX2_compareHalves_45 (fun H locs X => ?_)
  have X : Wd D A s [((g 1), .inl (cJ, 20, .inr (.inl (fun _ => (0 : Int64))))), ((g 2), .inl (cJ, 20, .inr (.inl (fun _ => (0 : Int64))))), ((g 0), .inr (2, [.ref (w 0), .ref (g 1), .ref (g 2), .ref (g 3), .ref (g 4), .int (0 : Int32), .int (0 : Int32), .int (0 : Int32)])), ((g 3), .inl (cJ, 20, .inr (.inl (fun _ => (0 : Int64))))), ((g 4), .inl (cJ, 20, .inr (.inl (fun _ => (0 : Int64))))), ((w 0), .inr (10, [.int (0 : Int32), .ref (w 1), .int (0 : Int32), .ref (w 2), .ref (w 3), .int (0 : Int32), .ref (w 4), .ref (w 5), .ref (w 6), .ref (w 7), .ref (w 8), .long (1 : Int64)])), ((w 4), .inl (cI, 3200, .inl (fun _ => (-1 : Int32))))] H locs := X
  refine lv_iconst (v := (0 : Int32)) hx hb dX2_compareHalves_48 (by decide) ?_
  refine lv_istore (lv' := [(5, .int (0 : Int32)), (0, .ref (g 0)), (1, .int part), (2, .int (nI (i))), (3, .int (nI (h))), (4, .int (nI (j)))]) hx hb dX2_compareHalves_49 hl (by decide) rfl (fun ls hl => ?_)
  have L51 : ∀ (n : Nat) (v : Nat) (H : Heap) (locs : List Loc) (ls : Array Slot), (h1 : v ≤ 20) → 20 < v + n → Wd D A s [((g 1), .inl (cJ, 20, .inr (.inl (fun _ => (0 : Int64))))), ((g 2), .inl (cJ, 20, .inr (.inl (fun _ => (0 : Int64))))), ((g 0), .inr (2, [.ref (w 0), .ref (g 1), .ref (g 2), .ref (g 3), .ref (g 4), .int (0 : Int32), .int (0 : Int32), .int (0 : Int32)])), ((g 3), .inl (cJ, 20, .inr (.inl (fun _ => (0 : Int64))))), ((g 4), .inl (cJ, 20, .inr (.inl (fun _ => (0 : Int64))))), ((w 0), .inr (10, [.int (0 : Int32), .ref (w 1), .int (0 : Int32), .ref (w 2), .ref (w 3), .int (0 : Int32), .ref (w 4), .ref (w 5), .ref (w 6), .ref (w 7), .ref (w 8), .long (1 : Int64)])), ((w 4), .inl (cI, 3200, .inl (fun _ => (-1 : Int32))))] H locs → lv_has ls 6 [(5, .int (nI (v))), (0, .ref (g 0)), (1, .int part), (2, .int (nI (i))), (3, .int (nI (h))), (4, .int (nI (j)))] → W p l e ({ frames := 3, cells := 0, slots := 0, locals := 75 } : Room) s m ([.ref (g 0), .int part, .int (nI (i)), .int (nI (h)), .int (nI (j))] : List Value).toArray below meth c H locs 0 0 (MQ below (va_Qv (fun (u : Unit) => (True)) (fun u t => Aft D A ((fun (_ : Unit) => [((g 0), .inr (2, [.ref (w 0), .ref (g 1), .ref (g 2), .ref (g 3), .ref (g 4), .int (0 : Int32), .int (0 : Int32), .int (0 : Int32)])), ((g 1), .inl (cJ, 20, .inr (.inl (fun _ => (0 : Int64))))), ((g 2), .inl (cJ, 20, .inr (.inl (fun _ => (0 : Int64))))), ((g 3), .inl (cJ, 20, .inr (.inl (fun _ => (0 : Int64))))), ((g 4), .inl (cJ, 20, .inr (.inl (fun _ => (0 : Int64))))), ((w 0), .inr (10, [.int (0 : Int32), .ref (w 1), .int (0 : Int32), .ref (w 2), .ref (w 3), .int (0 : Int32), .ref (w 4), .ref (w 5), .ref (w 6), .ref (w 7), .ref (w 8), .long (1 : Int64)])), ((w 4), .inl (cI, 3200, .inl (fun _ => (-1 : Int32))))]) u) t) A) ([.ref (g 0), .int part, .int (nI (i)), .int (nI (h)), .int (nI (j))] : List Value).toArray s 0 0 A) (F0 m 51 ls []) := by
    intro n
    induction n with
    | zero => intro v H locs ls h1 hn; exact absurd hn (by omega)
    | succ n ih =>
      intro v H locs ls h1 hn X hl
      have ih51 := ih
      refine lv_iload hx hb dX2_compareHalves_51 (lv_at hl 0 rfl) ?_
      refine lv_bipush (v := (20 : Int32)) hx hb dX2_compareHalves_53 (by decide) ?_
      refine lv_icmp_ge (tgt := 89) hx hb dX2_compareHalves_55 (by decide) (fun c_7 => ?_) (fun c_7 => ?_)
      · have fc_7 : (20 : Int) ≤ ((v : Nat) : Int) := (by have h9 := i_le c_7; simp only [nI_toInt (n := v) (by omega)] at h9; exact h9)
        exact x_vret C X hr hlk (()) [2, 0, 1, 3, 4, 5, 6] (by decide) rfl (trivial) (Nat.le_of_ble_eq_true rfl) (Nat.le_of_ble_eq_true rfl) dX2_compareHalves_89
      · have fc_7 : ((v : Nat) : Int) < (20 : Int) := (by have h9 := i_nle c_7; simp only [nI_toInt (n := v) (by omega)] at h9; exact h9)
        refine lv_aload_n hx hb dX2_compareHalves_58 rfl (lv_at hl 1 rfl) ?_
        refine lv_iload hx hb dX2_compareHalves_59 (lv_at hl 0 rfl) ?_
        refine x_cV (own := RX2) (wr := [((g 1), .inl (cJ, 20, .inr (.inl (fun _ => (0 : Int64))))), ((g 3), .inl (cJ, 20, .inr (.inl (fun _ => (0 : Int64))))), ((g 4), .inl (cJ, 20, .inr (.inl (fun _ => (0 : Int64))))), ((w 0), .inr (10, [.int (0 : Int32), .ref (w 1), .int (0 : Int32), .ref (w 2), .ref (w 3), .int (0 : Int32), .ref (w 4), .ref (w 5), .ref (w 6), .ref (w 7), .ref (w 8), .long (1 : Int64)])), ((w 4), .inl (cI, 3200, .inl (fun _ => (-1 : Int32))))]) (As := [.int (nI (v))]) C X hl.1 (c_isInBoth l D cI cJ cZ cB cO g w v (by omega)) [2, 1] [0, 3, 4, 5, 6] ⟨rfl, rfl, by decide, by decide, by decide⟩ (qb := 0) rfl rfl k_55_23 k_56_0 k_56_1 k_3_3 k_56_2 (n := 1) (by decide +kernel) ⟨Nat.le_of_ble_eq_true rfl, Nat.le_of_ble_eq_true rfl⟩ rfl rfl (Nat.le_of_ble_eq_true rfl) dX2_compareHalves_61 ⟨Nat.le_of_ble_eq_true rfl, Nat.le_of_ble_eq_true rfl⟩ (fun r_9 u_8 H locs w_10 X => ?_)
        have X : Wd D A s [((g 1), .inl (cJ, 20, .inr (.inl (fun _ => (0 : Int64))))), ((g 3), .inl (cJ, 20, .inr (.inl (fun _ => (0 : Int64))))), ((g 4), .inl (cJ, 20, .inr (.inl (fun _ => (0 : Int64))))), ((w 0), .inr (10, [.int (0 : Int32), .ref (w 1), .int (0 : Int32), .ref (w 2), .ref (w 3), .int (0 : Int32), .ref (w 4), .ref (w 5), .ref (w 6), .ref (w 7), .ref (w 8), .long (1 : Int64)])), ((w 4), .inl (cI, 3200, .inl (fun _ => (-1 : Int32)))), ((g 0), .inr (2, [.ref (w 0), .ref (g 1), .ref (g 2), .ref (g 3), .ref (g 4), .int (0 : Int32), .int (0 : Int32), .int (0 : Int32)])), ((g 2), .inl (cJ, 20, .inr (.inl (fun _ => (0 : Int64)))))] H locs := X
        refine W.widen (k := 0) (n := 0) (Nat.le_of_ble_eq_true rfl) (Nat.le_of_ble_eq_true rfl) ?_
        obtain ⟨rfl, fw_10⟩ : r_9 = (0 : Int32) ∧ True := w_10
        refine lv_if_eq (tgt := 83) hx hb dX2_compareHalves_64 (by decide) (fun _ => ?_) (fun c0 => absurd (by decide) c0)
        refine lv_iinc (v := (nI (v + 1))) (lv' := [(5, .int (nI (v + 1))), (0, .ref (g 0)), (1, .int part), (2, .int (nI (i))), (3, .int (nI (h))), (4, .int (nI (j)))]) hx hb dX2_compareHalves_83 hl (k := 0) rfl (nI_add _ 1) (by decide) rfl (fun ls hl => ?_)
        refine lv_goto (tgt := 51) hx hb dX2_compareHalves_86 (by decide) ?_
        exact ih51  (v + 1) H locs ls (by omega) (by omega) (x_sub X [0, 6, 5, 1, 2, 3, 4] (by decide) rfl) (lv_sub hl [0, 1, 2, 3, 4, 5] rfl)
  exact L51 (20 + 1) (0) H locs ls (by omega) (by omega) (x_sub X [0, 1, 2, 3, 4, 5, 6] (by decide) rfl) (lv_sub hl [0, 1, 2, 3, 4, 5] rfl)
set_option maxHeartbeats 4000000 in
set_option maxRecDepth 100000 in
theorem c_lastingPart (l : Launch) (D : va_G) (cI cJ cZ cB : ClassId) (cO : ClassId) (g w : Nat → Nat) (i h j : Nat) (hi : i < h) (hh : h ≤ j) (hj : j < 40) :
    CI l D [(cI, .int), (cJ, .long), (cZ, .boolean), (cB, .byte), (cO, .object "LuckLinks$World")] yX2_lastingPart cX2_lastingPart 7 (some .int) ({ frames := 4, cells := 0, slots := 0, locals := 100 } : Room) [.ref (g 0), .int (nI (i)), .int (nI (h)), .int (nI (j))] [((g 0), .inr (2, [.ref (w 0), .ref (g 1), .ref (g 2), .ref (g 3), .ref (g 4), .int (0 : Int32), .int (0 : Int32), .int (0 : Int32)])), ((g 1), .inl (cJ, 20, .inr (.inl (fun _ => (0 : Int64))))), ((g 2), .inl (cJ, 20, .inr (.inl (fun _ => (0 : Int64))))), ((g 3), .inl (cJ, 20, .inr (.inl (fun _ => (0 : Int64))))), ((g 4), .inl (cJ, 20, .inr (.inl (fun _ => (0 : Int64))))), ((w 0), .inr (10, [.int (0 : Int32), .ref (w 1), .int (0 : Int32), .ref (w 2), .ref (w 3), .int (0 : Int32), .ref (w 4), .ref (w 5), .ref (w 6), .ref (w 7), .ref (w 8), .long (1 : Int64)])), ((w 4), .inl (cI, 3200, .inl (fun _ => (-1 : Int32))))] (fun (r : Int32) (u : Unit) => (r = (0 : Int32) ∧ True)) (fun (_ : Unit) => []) := by
  intro sz
  refine body_of (y := yX2_lastingPart) (cc := cX2_lastingPart) (maxL := 7) (ret := (some .int)) (rm := ({ frames := 4, cells := 0, slots := 0, locals := 100 } : Room)) (wc := [((g 0), .inr (2, [.ref (w 0), .ref (g 1), .ref (g 2), .ref (g 3), .ref (g 4), .int (0 : Int32), .int (0 : Int32), .int (0 : Int32)])), ((g 1), .inl (cJ, 20, .inr (.inl (fun _ => (0 : Int64))))), ((g 2), .inl (cJ, 20, .inr (.inl (fun _ => (0 : Int64))))), ((g 3), .inl (cJ, 20, .inr (.inl (fun _ => (0 : Int64))))), ((g 4), .inl (cJ, 20, .inr (.inl (fun _ => (0 : Int64))))), ((w 0), .inr (10, [.int (0 : Int32), .ref (w 1), .int (0 : Int32), .ref (w 2), .ref (w 3), .int (0 : Int32), .ref (w 4), .ref (w 5), .ref (w 6), .ref (w 7), .ref (w 8), .long (1 : Int64)])), ((w 4), .inl (cI, 3200, .inl (fun _ => (-1 : Int32))))]) (tys := [(cI, .int), (cJ, .long), (cZ, .boolean), (cB, .byte), (cO, .object "LuckLinks$World")]) (D := D) (sz := sz) (own := RX2) (av := [.ref (g 0), .int (nI (i)), .int (nI (h)), .int (nI (j))]) (Qc := fun A => va_Qi (fun (r : Int32) (u : Unit) => (r = (0 : Int32) ∧ True)) (fun u t => Aft D A ((fun (_ : Unit) => []) u) t) A) (by decide) rfl (Nat.le_of_ble_eq_true rfl) (fun p e s m below meth c A ls C hr hlk hin X hl => ?_)
  have hx := C.1
  have hb := C.2.1
  have hown := C.2.2.2.1
  have hts := C.2.2.2.2.1
  have hl : lv_has ls 7 [(0, .ref (g 0)), (1, .int (nI (i))), (2, .int (nI (h))), (3, .int (nI (j)))] := hl
  show W p l e _ s m _ below meth c s.heap [] 0 0 (MQ below (va_Qi (fun (r : Int32) (u : Unit) => (r = (0 : Int32) ∧ True)) (fun u t => Aft D A ((fun (_ : Unit) => []) u) t) A) ([.ref (g 0), .int (nI (i)), .int (nI (h)), .int (nI (j))] : List Value).toArray s 0 0 A) (F0 m 0 ls [])
  have X : Wd D A s [((g 0), .inr (2, [.ref (w 0), .ref (g 1), .ref (g 2), .ref (g 3), .ref (g 4), .int (0 : Int32), .int (0 : Int32), .int (0 : Int32)])), ((g 1), .inl (cJ, 20, .inr (.inl (fun _ => (0 : Int64))))), ((g 2), .inl (cJ, 20, .inr (.inl (fun _ => (0 : Int64))))), ((g 3), .inl (cJ, 20, .inr (.inl (fun _ => (0 : Int64))))), ((g 4), .inl (cJ, 20, .inr (.inl (fun _ => (0 : Int64))))), ((w 0), .inr (10, [.int (0 : Int32), .ref (w 1), .int (0 : Int32), .ref (w 2), .ref (w 3), .int (0 : Int32), .ref (w 4), .ref (w 5), .ref (w 6), .ref (w 7), .ref (w 8), .long (1 : Int64)])), ((w 4), .inl (cI, 3200, .inl (fun _ => (-1 : Int32))))] s.heap [] := X
  obtain ⟨H, locs, eH, eL⟩ : ∃ H locs, H = s.heap ∧ locs = ([] : List Loc) := ⟨_, _, rfl, rfl⟩
  rw [← eH, ← eL] at X ⊢
  clear eH eL
  refine lv_iconst (v := (0 : Int32)) hx hb dX2_lastingPart_0 (by decide) ?_
  refine lv_istore (lv' := [(4, .int (0 : Int32)), (0, .ref (g 0)), (1, .int (nI (i))), (2, .int (nI (h))), (3, .int (nI (j)))]) hx hb dX2_lastingPart_1 hl (by decide) rfl (fun ls hl => ?_)
  refine lv_iconst (v := (0 : Int32)) hx hb dX2_lastingPart_3 (by decide) ?_
  refine lv_istore (lv' := [(5, .int (0 : Int32)), (4, .int (0 : Int32)), (0, .ref (g 0)), (1, .int (nI (i))), (2, .int (nI (h))), (3, .int (nI (j)))]) hx hb dX2_lastingPart_4 hl (by decide) rfl (fun ls hl => ?_)
  refine lv_iconst (v := (0 : Int32)) hx hb dX2_lastingPart_6 (by decide) ?_
  refine lv_istore (lv' := [(6, .int (0 : Int32)), (5, .int (0 : Int32)), (4, .int (0 : Int32)), (0, .ref (g 0)), (1, .int (nI (i))), (2, .int (nI (h))), (3, .int (nI (j)))]) hx hb dX2_lastingPart_7 hl (by decide) rfl (fun ls hl => ?_)
  refine lv_iload hx hb dX2_lastingPart_9 (lv_at hl 0 rfl) ?_
  refine lv_iconst (v := (4 : Int32)) hx hb dX2_lastingPart_11 (by decide) ?_
  refine lv_icmp_ge (tgt := 64) hx hb dX2_lastingPart_12 (by decide) (fun c0 => absurd c0 (by decide)) (fun _ => ?_)
  refine lv_aload_n hx hb dX2_lastingPart_15 rfl (lv_at hl 3 rfl) ?_
  refine lv_iload hx hb dX2_lastingPart_16 (lv_at hl 0 rfl) ?_
  refine lv_iload_n hx hb dX2_lastingPart_18 rfl (lv_at hl 4 rfl) ?_
  refine lv_iload_n hx hb dX2_lastingPart_19 rfl (lv_at hl 5 rfl) ?_
  refine lv_iload_n hx hb dX2_lastingPart_20 rfl (lv_at hl 6 rfl) ?_
  refine x_cVv (own := RX2) (wr := []) (As := [.int (0 : Int32), .int (nI (i)), .int (nI (h)), .int (nI (j))]) C X hl.1 (c_compareHalves l D cI cJ cZ cB cO g w (0 : Int32) i h j hi hh hj) [0, 1, 2, 3, 4, 5, 6] [] ⟨rfl, rfl, by decide, by decide, by decide⟩ (qb := 0) rfl rfl k_57_17 k_55_14 k_55_15 k_3_3 k_55_16 (n := 4) (by decide +kernel) ⟨Nat.le_of_ble_eq_true rfl, Nat.le_of_ble_eq_true rfl⟩ rfl rfl (Nat.le_of_ble_eq_true rfl) dX2_lastingPart_21 ⟨Nat.le_of_ble_eq_true rfl, Nat.le_of_ble_eq_true rfl⟩ (fun u_1 H locs w_3 X => ?_)
  have X : Wd D A s [((g 0), .inr (2, [.ref (w 0), .ref (g 1), .ref (g 2), .ref (g 3), .ref (g 4), .int (0 : Int32), .int (0 : Int32), .int (0 : Int32)])), ((g 1), .inl (cJ, 20, .inr (.inl (fun _ => (0 : Int64))))), ((g 2), .inl (cJ, 20, .inr (.inl (fun _ => (0 : Int64))))), ((g 3), .inl (cJ, 20, .inr (.inl (fun _ => (0 : Int64))))), ((g 4), .inl (cJ, 20, .inr (.inl (fun _ => (0 : Int64))))), ((w 0), .inr (10, [.int (0 : Int32), .ref (w 1), .int (0 : Int32), .ref (w 2), .ref (w 3), .int (0 : Int32), .ref (w 4), .ref (w 5), .ref (w 6), .ref (w 7), .ref (w 8), .long (1 : Int64)])), ((w 4), .inl (cI, 3200, .inl (fun _ => (-1 : Int32))))] H locs := X
  refine W.widen (k := 0) (n := 0) (Nat.le_of_ble_eq_true rfl) (Nat.le_of_ble_eq_true rfl) ?_
  refine lv_iload hx hb dX2_lastingPart_24 (lv_at hl 0 rfl) ?_
  refine lv_if_eq (tgt := 43) hx hb dX2_lastingPart_26 (by decide) (fun _ => ?_) (fun c0 => absurd (by decide) c0)
  refine lv_iload hx hb dX2_lastingPart_43 (lv_at hl 0 rfl) ?_
  refine lv_istore (lv' := [(4, .int (0 : Int32)), (6, .int (0 : Int32)), (5, .int (0 : Int32)), (0, .ref (g 0)), (1, .int (nI (i))), (2, .int (nI (h))), (3, .int (nI (j)))]) hx hb dX2_lastingPart_45 hl (by decide) rfl (fun ls hl => ?_)
  refine lv_aload_n hx hb dX2_lastingPart_47 rfl (lv_at hl 3 rfl) ?_
  refine x_get (own := RX2) (T := TX2) C X 0 rfl rfl 5 (by decide) k_8_7 rfl rfl (v := .int (0 : Int32)) rfl dX2_lastingPart_48 ?_
  refine lv_aload_n hx hb dX2_lastingPart_51 rfl (lv_at hl 3 rfl) ?_
  refine x_get (own := RX2) (T := TX2) C X 0 rfl rfl 6 (by decide) k_8_8 rfl rfl (v := .int (0 : Int32)) rfl dX2_lastingPart_52 ?_
  refine lv_isub hx hb dX2_lastingPart_55 ?_
  refine x_eqi (show (0 : Int32) - (0 : Int32) = (0 : Int32) from by decide +kernel) ?_
  refine lv_istore (lv' := [(5, .int (0 : Int32)), (4, .int (0 : Int32)), (6, .int (0 : Int32)), (0, .ref (g 0)), (1, .int (nI (i))), (2, .int (nI (h))), (3, .int (nI (j)))]) hx hb dX2_lastingPart_56 hl (by decide) rfl (fun ls hl => ?_)
  refine lv_iinc (v := (1 : Int32)) (lv' := [(6, .int (1 : Int32)), (5, .int (0 : Int32)), (4, .int (0 : Int32)), (0, .ref (g 0)), (1, .int (nI (i))), (2, .int (nI (h))), (3, .int (nI (j)))]) hx hb dX2_lastingPart_58 hl (k := 2) rfl (by decide) (by decide) rfl (fun ls hl => ?_)
  refine lv_goto (tgt := 9) hx hb dX2_lastingPart_61 (by decide) ?_
  refine lv_iload hx hb dX2_lastingPart_9 (lv_at hl 0 rfl) ?_
  refine lv_iconst (v := (4 : Int32)) hx hb dX2_lastingPart_11 (by decide) ?_
  refine lv_icmp_ge (tgt := 64) hx hb dX2_lastingPart_12 (by decide) (fun c0 => absurd c0 (by decide)) (fun _ => ?_)
  refine lv_aload_n hx hb dX2_lastingPart_15 rfl (lv_at hl 3 rfl) ?_
  refine lv_iload hx hb dX2_lastingPart_16 (lv_at hl 0 rfl) ?_
  refine lv_iload_n hx hb dX2_lastingPart_18 rfl (lv_at hl 4 rfl) ?_
  refine lv_iload_n hx hb dX2_lastingPart_19 rfl (lv_at hl 5 rfl) ?_
  refine lv_iload_n hx hb dX2_lastingPart_20 rfl (lv_at hl 6 rfl) ?_
  refine x_cVv (own := RX2) (wr := []) (As := [.int (1 : Int32), .int (nI (i)), .int (nI (h)), .int (nI (j))]) C X hl.1 (c_compareHalves l D cI cJ cZ cB cO g w (1 : Int32) i h j hi hh hj) [0, 1, 2, 3, 4, 5, 6] [] ⟨rfl, rfl, by decide, by decide, by decide⟩ (qb := 0) rfl rfl k_57_17 k_55_14 k_55_15 k_3_3 k_55_16 (n := 4) (by decide +kernel) ⟨Nat.le_of_ble_eq_true rfl, Nat.le_of_ble_eq_true rfl⟩ rfl rfl (Nat.le_of_ble_eq_true rfl) dX2_lastingPart_21 ⟨Nat.le_of_ble_eq_true rfl, Nat.le_of_ble_eq_true rfl⟩ (fun u_4 H locs w_6 X => ?_)
  have X : Wd D A s [((g 0), .inr (2, [.ref (w 0), .ref (g 1), .ref (g 2), .ref (g 3), .ref (g 4), .int (0 : Int32), .int (0 : Int32), .int (0 : Int32)])), ((g 1), .inl (cJ, 20, .inr (.inl (fun _ => (0 : Int64))))), ((g 2), .inl (cJ, 20, .inr (.inl (fun _ => (0 : Int64))))), ((g 3), .inl (cJ, 20, .inr (.inl (fun _ => (0 : Int64))))), ((g 4), .inl (cJ, 20, .inr (.inl (fun _ => (0 : Int64))))), ((w 0), .inr (10, [.int (0 : Int32), .ref (w 1), .int (0 : Int32), .ref (w 2), .ref (w 3), .int (0 : Int32), .ref (w 4), .ref (w 5), .ref (w 6), .ref (w 7), .ref (w 8), .long (1 : Int64)])), ((w 4), .inl (cI, 3200, .inl (fun _ => (-1 : Int32))))] H locs := X
  refine W.widen (k := 0) (n := 0) (Nat.le_of_ble_eq_true rfl) (Nat.le_of_ble_eq_true rfl) ?_
  refine lv_iload hx hb dX2_lastingPart_24 (lv_at hl 0 rfl) ?_
  refine lv_if_eq (tgt := 43) hx hb dX2_lastingPart_26 (by decide) (fun c0 => absurd c0 (by decide)) (fun _ => ?_)
  refine lv_aload_n hx hb dX2_lastingPart_29 rfl (lv_at hl 3 rfl) ?_
  refine x_get (own := RX2) (T := TX2) C X 0 rfl rfl 5 (by decide) k_8_7 rfl rfl (v := .int (0 : Int32)) rfl dX2_lastingPart_30 ?_
  refine lv_aload_n hx hb dX2_lastingPart_33 rfl (lv_at hl 3 rfl) ?_
  refine x_get (own := RX2) (T := TX2) C X 0 rfl rfl 6 (by decide) k_8_8 rfl rfl (v := .int (0 : Int32)) rfl dX2_lastingPart_34 ?_
  refine lv_isub hx hb dX2_lastingPart_37 ?_
  refine x_eqi (show (0 : Int32) - (0 : Int32) = (0 : Int32) from by decide +kernel) ?_
  refine lv_iload hx hb dX2_lastingPart_38 (lv_at hl 1 rfl) ?_
  refine lv_icmp_le (tgt := 58) hx hb dX2_lastingPart_40 (by decide) (fun _ => ?_) (fun c0 => absurd (by decide) c0)
  refine lv_iinc (v := (2 : Int32)) (lv' := [(6, .int (2 : Int32)), (5, .int (0 : Int32)), (4, .int (0 : Int32)), (0, .ref (g 0)), (1, .int (nI (i))), (2, .int (nI (h))), (3, .int (nI (j)))]) hx hb dX2_lastingPart_58 hl (k := 0) rfl (by decide) (by decide) rfl (fun ls hl => ?_)
  refine lv_goto (tgt := 9) hx hb dX2_lastingPart_61 (by decide) ?_
  refine lv_iload hx hb dX2_lastingPart_9 (lv_at hl 0 rfl) ?_
  refine lv_iconst (v := (4 : Int32)) hx hb dX2_lastingPart_11 (by decide) ?_
  refine lv_icmp_ge (tgt := 64) hx hb dX2_lastingPart_12 (by decide) (fun c0 => absurd c0 (by decide)) (fun _ => ?_)
  refine lv_aload_n hx hb dX2_lastingPart_15 rfl (lv_at hl 3 rfl) ?_
  refine lv_iload hx hb dX2_lastingPart_16 (lv_at hl 0 rfl) ?_
  refine lv_iload_n hx hb dX2_lastingPart_18 rfl (lv_at hl 4 rfl) ?_
  refine lv_iload_n hx hb dX2_lastingPart_19 rfl (lv_at hl 5 rfl) ?_
  refine lv_iload_n hx hb dX2_lastingPart_20 rfl (lv_at hl 6 rfl) ?_
  refine x_cVv (own := RX2) (wr := []) (As := [.int (2 : Int32), .int (nI (i)), .int (nI (h)), .int (nI (j))]) C X hl.1 (c_compareHalves l D cI cJ cZ cB cO g w (2 : Int32) i h j hi hh hj) [0, 1, 2, 3, 4, 5, 6] [] ⟨rfl, rfl, by decide, by decide, by decide⟩ (qb := 0) rfl rfl k_57_17 k_55_14 k_55_15 k_3_3 k_55_16 (n := 4) (by decide +kernel) ⟨Nat.le_of_ble_eq_true rfl, Nat.le_of_ble_eq_true rfl⟩ rfl rfl (Nat.le_of_ble_eq_true rfl) dX2_lastingPart_21 ⟨Nat.le_of_ble_eq_true rfl, Nat.le_of_ble_eq_true rfl⟩ (fun u_7 H locs w_9 X => ?_)
  have X : Wd D A s [((g 0), .inr (2, [.ref (w 0), .ref (g 1), .ref (g 2), .ref (g 3), .ref (g 4), .int (0 : Int32), .int (0 : Int32), .int (0 : Int32)])), ((g 1), .inl (cJ, 20, .inr (.inl (fun _ => (0 : Int64))))), ((g 2), .inl (cJ, 20, .inr (.inl (fun _ => (0 : Int64))))), ((g 3), .inl (cJ, 20, .inr (.inl (fun _ => (0 : Int64))))), ((g 4), .inl (cJ, 20, .inr (.inl (fun _ => (0 : Int64))))), ((w 0), .inr (10, [.int (0 : Int32), .ref (w 1), .int (0 : Int32), .ref (w 2), .ref (w 3), .int (0 : Int32), .ref (w 4), .ref (w 5), .ref (w 6), .ref (w 7), .ref (w 8), .long (1 : Int64)])), ((w 4), .inl (cI, 3200, .inl (fun _ => (-1 : Int32))))] H locs := X
  refine W.widen (k := 0) (n := 0) (Nat.le_of_ble_eq_true rfl) (Nat.le_of_ble_eq_true rfl) ?_
  refine lv_iload hx hb dX2_lastingPart_24 (lv_at hl 0 rfl) ?_
  refine lv_if_eq (tgt := 43) hx hb dX2_lastingPart_26 (by decide) (fun c0 => absurd c0 (by decide)) (fun _ => ?_)
  refine lv_aload_n hx hb dX2_lastingPart_29 rfl (lv_at hl 3 rfl) ?_
  refine x_get (own := RX2) (T := TX2) C X 0 rfl rfl 5 (by decide) k_8_7 rfl rfl (v := .int (0 : Int32)) rfl dX2_lastingPart_30 ?_
  refine lv_aload_n hx hb dX2_lastingPart_33 rfl (lv_at hl 3 rfl) ?_
  refine x_get (own := RX2) (T := TX2) C X 0 rfl rfl 6 (by decide) k_8_8 rfl rfl (v := .int (0 : Int32)) rfl dX2_lastingPart_34 ?_
  refine lv_isub hx hb dX2_lastingPart_37 ?_
  refine x_eqi (show (0 : Int32) - (0 : Int32) = (0 : Int32) from by decide +kernel) ?_
  refine lv_iload hx hb dX2_lastingPart_38 (lv_at hl 1 rfl) ?_
  refine lv_icmp_le (tgt := 58) hx hb dX2_lastingPart_40 (by decide) (fun _ => ?_) (fun c0 => absurd (by decide) c0)
  refine lv_iinc (v := (3 : Int32)) (lv' := [(6, .int (3 : Int32)), (5, .int (0 : Int32)), (4, .int (0 : Int32)), (0, .ref (g 0)), (1, .int (nI (i))), (2, .int (nI (h))), (3, .int (nI (j)))]) hx hb dX2_lastingPart_58 hl (k := 0) rfl (by decide) (by decide) rfl (fun ls hl => ?_)
  refine lv_goto (tgt := 9) hx hb dX2_lastingPart_61 (by decide) ?_
  refine lv_iload hx hb dX2_lastingPart_9 (lv_at hl 0 rfl) ?_
  refine lv_iconst (v := (4 : Int32)) hx hb dX2_lastingPart_11 (by decide) ?_
  refine lv_icmp_ge (tgt := 64) hx hb dX2_lastingPart_12 (by decide) (fun c0 => absurd c0 (by decide)) (fun _ => ?_)
  refine lv_aload_n hx hb dX2_lastingPart_15 rfl (lv_at hl 3 rfl) ?_
  refine lv_iload hx hb dX2_lastingPart_16 (lv_at hl 0 rfl) ?_
  refine lv_iload_n hx hb dX2_lastingPart_18 rfl (lv_at hl 4 rfl) ?_
  refine lv_iload_n hx hb dX2_lastingPart_19 rfl (lv_at hl 5 rfl) ?_
  refine lv_iload_n hx hb dX2_lastingPart_20 rfl (lv_at hl 6 rfl) ?_
  refine x_cVv (own := RX2) (wr := []) (As := [.int (3 : Int32), .int (nI (i)), .int (nI (h)), .int (nI (j))]) C X hl.1 (c_compareHalves l D cI cJ cZ cB cO g w (3 : Int32) i h j hi hh hj) [0, 1, 2, 3, 4, 5, 6] [] ⟨rfl, rfl, by decide, by decide, by decide⟩ (qb := 0) rfl rfl k_57_17 k_55_14 k_55_15 k_3_3 k_55_16 (n := 4) (by decide +kernel) ⟨Nat.le_of_ble_eq_true rfl, Nat.le_of_ble_eq_true rfl⟩ rfl rfl (Nat.le_of_ble_eq_true rfl) dX2_lastingPart_21 ⟨Nat.le_of_ble_eq_true rfl, Nat.le_of_ble_eq_true rfl⟩ (fun u_10 H locs w_12 X => ?_)
  have X : Wd D A s [((g 0), .inr (2, [.ref (w 0), .ref (g 1), .ref (g 2), .ref (g 3), .ref (g 4), .int (0 : Int32), .int (0 : Int32), .int (0 : Int32)])), ((g 1), .inl (cJ, 20, .inr (.inl (fun _ => (0 : Int64))))), ((g 2), .inl (cJ, 20, .inr (.inl (fun _ => (0 : Int64))))), ((g 3), .inl (cJ, 20, .inr (.inl (fun _ => (0 : Int64))))), ((g 4), .inl (cJ, 20, .inr (.inl (fun _ => (0 : Int64))))), ((w 0), .inr (10, [.int (0 : Int32), .ref (w 1), .int (0 : Int32), .ref (w 2), .ref (w 3), .int (0 : Int32), .ref (w 4), .ref (w 5), .ref (w 6), .ref (w 7), .ref (w 8), .long (1 : Int64)])), ((w 4), .inl (cI, 3200, .inl (fun _ => (-1 : Int32))))] H locs := X
  refine W.widen (k := 0) (n := 0) (Nat.le_of_ble_eq_true rfl) (Nat.le_of_ble_eq_true rfl) ?_
  refine lv_iload hx hb dX2_lastingPart_24 (lv_at hl 0 rfl) ?_
  refine lv_if_eq (tgt := 43) hx hb dX2_lastingPart_26 (by decide) (fun c0 => absurd c0 (by decide)) (fun _ => ?_)
  refine lv_aload_n hx hb dX2_lastingPart_29 rfl (lv_at hl 3 rfl) ?_
  refine x_get (own := RX2) (T := TX2) C X 0 rfl rfl 5 (by decide) k_8_7 rfl rfl (v := .int (0 : Int32)) rfl dX2_lastingPart_30 ?_
  refine lv_aload_n hx hb dX2_lastingPart_33 rfl (lv_at hl 3 rfl) ?_
  refine x_get (own := RX2) (T := TX2) C X 0 rfl rfl 6 (by decide) k_8_8 rfl rfl (v := .int (0 : Int32)) rfl dX2_lastingPart_34 ?_
  refine lv_isub hx hb dX2_lastingPart_37 ?_
  refine x_eqi (show (0 : Int32) - (0 : Int32) = (0 : Int32) from by decide +kernel) ?_
  refine lv_iload hx hb dX2_lastingPart_38 (lv_at hl 1 rfl) ?_
  refine lv_icmp_le (tgt := 58) hx hb dX2_lastingPart_40 (by decide) (fun _ => ?_) (fun c0 => absurd (by decide) c0)
  refine lv_iinc (v := (4 : Int32)) (lv' := [(6, .int (4 : Int32)), (5, .int (0 : Int32)), (4, .int (0 : Int32)), (0, .ref (g 0)), (1, .int (nI (i))), (2, .int (nI (h))), (3, .int (nI (j)))]) hx hb dX2_lastingPart_58 hl (k := 0) rfl (by decide) (by decide) rfl (fun ls hl => ?_)
  refine lv_goto (tgt := 9) hx hb dX2_lastingPart_61 (by decide) ?_
  refine lv_iload hx hb dX2_lastingPart_9 (lv_at hl 0 rfl) ?_
  refine lv_iconst (v := (4 : Int32)) hx hb dX2_lastingPart_11 (by decide) ?_
  refine lv_icmp_ge (tgt := 64) hx hb dX2_lastingPart_12 (by decide) (fun _ => ?_) (fun c0 => absurd (by decide) c0)
  refine lv_iload hx hb dX2_lastingPart_64 (lv_at hl 2 rfl) ?_
  exact x_iret C X hr hlk (v := (0 : Int32)) (by first | rfl | decide) (()) [] (by decide) rfl (⟨rfl, trivial⟩) (Nat.le_of_ble_eq_true rfl) (Nat.le_of_ble_eq_true rfl) dX2_lastingPart_66
