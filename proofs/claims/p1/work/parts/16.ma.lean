theorem k_12_23 : Cond.methodLink RX12 182 yX12_within ∈ wsL_law := mr_12 _ (List.mem_of_getElem? (i := 23) rfl)
theorem k_13_0 : Cond.static yX12_within ∈ wsL_law := mr_13 _ (List.mem_of_getElem? (i := 0) rfl)
theorem k_13_1 : Cond.code yX12_within cX12_within 3 (some .boolean) ∈ wsL_law := mr_13 _ (List.mem_of_getElem? (i := 1) rfl)
theorem k_13_2 : Cond.methodLink RX12 174 yX12_refuses ∈ wsL_law := mr_13 _ (List.mem_of_getElem? (i := 2) rfl)
theorem k_13_3 : Cond.instanceMethod yX12_refuses ∈ wsL_law := mr_13 _ (List.mem_of_getElem? (i := 3) rfl)
theorem k_13_4 : Cond.selects RX12 yX12_refuses yX12_refuses ∈ wsL_law := mr_13 _ (List.mem_of_getElem? (i := 4) rfl)
theorem k_13_5 : Cond.code yX12_refuses cX12_refuses 2 (some .int) ∈ wsL_law := mr_13 _ (List.mem_of_getElem? (i := 5) rfl)
theorem k_14_11 : Cond.methodLink RX12 190 yX12_isWeek ∈ wsL_law := mr_14 _ (List.mem_of_getElem? (i := 11) rfl)
theorem k_14_12 : Cond.static yX12_isWeek ∈ wsL_law := mr_14 _ (List.mem_of_getElem? (i := 12) rfl)
theorem k_14_13 : Cond.code yX12_isWeek cX12_isWeek 1 (some .boolean) ∈ wsL_law := mr_14 _ (List.mem_of_getElem? (i := 13) rfl)
theorem k_14_14 : Cond.methodLink RX12 186 yX12_isNot ∈ wsL_law := mr_14 _ (List.mem_of_getElem? (i := 14) rfl)
theorem k_14_15 : Cond.instanceMethod yX12_isNot ∈ wsL_law := mr_14 _ (List.mem_of_getElem? (i := 15) rfl)
theorem k_14_16 : Cond.selects RX12 yX12_isNot yX12_isNot ∈ wsL_law := mr_14 _ (List.mem_of_getElem? (i := 16) rfl)
theorem k_14_17 : Cond.code yX12_isNot cX12_isNot 1 (some .boolean) ∈ wsL_law := mr_14 _ (List.mem_of_getElem? (i := 17) rfl)
theorem k_16_12 : Cond.methodLink RX12 194 yX12_isPlayer ∈ wsL_law := mr_16 _ (List.mem_of_getElem? (i := 12) rfl)
theorem k_16_13 : Cond.instanceMethod yX12_isPlayer ∈ wsL_law := mr_16 _ (List.mem_of_getElem? (i := 13) rfl)
theorem k_16_14 : Cond.selects RX12 yX12_isPlayer yX12_isPlayer ∈ wsL_law := mr_16 _ (List.mem_of_getElem? (i := 14) rfl)
theorem k_16_15 : Cond.code yX12_isPlayer cX12_isPlayer 2 (some .boolean) ∈ wsL_law := mr_16 _ (List.mem_of_getElem? (i := 15) rfl)
theorem k_17_22 : Cond.constant RX12 205 (999999999) ∈ wsL_law := mr_17 _ (List.mem_of_getElem? (i := 22) rfl)
theorem k_1_5 : Cond.initialized RX12 ∈ wsL_law := mr_1 _ (List.mem_of_getElem? (i := 5) rfl)
theorem k_26_7 : Cond.constantLong RX12 222 (-1) ∈ wsL_law := mr_26 _ (List.mem_of_getElem? (i := 7) rfl)
theorem k_42_1 : Cond.methodLink RX12 408 yX12_areWeeks ∈ wsL_law := mr_42 _ (List.mem_of_getElem? (i := 1) rfl)
theorem k_42_2 : Cond.static yX12_areWeeks ∈ wsL_law := mr_42 _ (List.mem_of_getElem? (i := 2) rfl)
theorem k_42_3 : Cond.code yX12_areWeeks cX12_areWeeks 2 (some .boolean) ∈ wsL_law := mr_42 _ (List.mem_of_getElem? (i := 3) rfl)
theorem k_48_10 : Cond.constantLong RX12 456 (-1000000000000) ∈ wsL_law := mr_48 _ (List.mem_of_getElem? (i := 10) rfl)
theorem k_49_20 : Cond.constant RX12 461 (-1000000) ∈ wsL_law := mr_49 _ (List.mem_of_getElem? (i := 20) rfl)
theorem k_62_7 : Cond.constantLong RX12 523 (-1000000000) ∈ wsL_law := mr_62 _ (List.mem_of_getElem? (i := 7) rfl)
theorem dX12_areHalves_0 : decode cX12_areHalves 0 = .ok (.iload_n 0, 1) := by decide +kernel
theorem dX12_areHalves_1 : decode cX12_areHalves 1 = .ok (.invokestatic 190, 3) := by decide +kernel
theorem dX12_areHalves_4 : decode cX12_areHalves 4 = .ok (.ifCond .eq 31, 3) := by decide +kernel
theorem dX12_areHalves_7 : decode cX12_areHalves 7 = .ok (.iload_n 1, 1) := by decide +kernel
theorem dX12_areHalves_8 : decode cX12_areHalves 8 = .ok (.invokestatic 190, 3) := by decide +kernel
theorem dX12_areHalves_11 : decode cX12_areHalves 11 = .ok (.ifCond .eq 24, 3) := by decide +kernel
theorem dX12_areHalves_14 : decode cX12_areHalves 14 = .ok (.iload_n 2, 1) := by decide +kernel
theorem dX12_areHalves_15 : decode cX12_areHalves 15 = .ok (.invokestatic 190, 3) := by decide +kernel
theorem dX12_areHalves_18 : decode cX12_areHalves 18 = .ok (.ifCond .eq 17, 3) := by decide +kernel
theorem dX12_areHalves_21 : decode cX12_areHalves 21 = .ok (.iload_n 0, 1) := by decide +kernel
theorem dX12_areHalves_22 : decode cX12_areHalves 22 = .ok (.iload_n 1, 1) := by decide +kernel
theorem dX12_areHalves_23 : decode cX12_areHalves 23 = .ok (.if_icmp .ge 12, 3) := by decide +kernel
theorem dX12_areHalves_26 : decode cX12_areHalves 26 = .ok (.iload_n 1, 1) := by decide +kernel
theorem dX12_areHalves_27 : decode cX12_areHalves 27 = .ok (.iload_n 2, 1) := by decide +kernel
theorem dX12_areHalves_28 : decode cX12_areHalves 28 = .ok (.if_icmp .gt 7, 3) := by decide +kernel
theorem dX12_areHalves_31 : decode cX12_areHalves 31 = .ok (.iconst 1, 1) := by decide +kernel
theorem dX12_areHalves_32 : decode cX12_areHalves 32 = .ok (.goto 4, 3) := by decide +kernel
theorem dX12_areHalves_35 : decode cX12_areHalves 35 = .ok (.iconst 0, 1) := by decide +kernel
theorem dX12_areHalves_36 : decode cX12_areHalves 36 = .ok (.ireturn, 1) := by decide +kernel
theorem dX12_areWeeks_0 : decode cX12_areWeeks 0 = .ok (.iload_n 0, 1) := by decide +kernel
theorem dX12_areWeeks_1 : decode cX12_areWeeks 1 = .ok (.invokestatic 190, 3) := by decide +kernel
theorem dX12_areWeeks_4 : decode cX12_areWeeks 4 = .ok (.ifCond .eq 19, 3) := by decide +kernel
theorem dX12_areWeeks_7 : decode cX12_areWeeks 7 = .ok (.iload_n 1, 1) := by decide +kernel
theorem dX12_areWeeks_8 : decode cX12_areWeeks 8 = .ok (.invokestatic 190, 3) := by decide +kernel
theorem dX12_areWeeks_11 : decode cX12_areWeeks 11 = .ok (.ifCond .eq 12, 3) := by decide +kernel
theorem dX12_areWeeks_14 : decode cX12_areWeeks 14 = .ok (.iload_n 0, 1) := by decide +kernel
theorem dX12_areWeeks_15 : decode cX12_areWeeks 15 = .ok (.iload_n 1, 1) := by decide +kernel
theorem dX12_areWeeks_16 : decode cX12_areWeeks 16 = .ok (.if_icmp .gt 7, 3) := by decide +kernel
theorem dX12_areWeeks_19 : decode cX12_areWeeks 19 = .ok (.iconst 1, 1) := by decide +kernel
theorem dX12_areWeeks_20 : decode cX12_areWeeks 20 = .ok (.goto 4, 3) := by decide +kernel
theorem dX12_areWeeks_23 : decode cX12_areWeeks 23 = .ok (.iconst 0, 1) := by decide +kernel
theorem dX12_areWeeks_24 : decode cX12_areWeeks 24 = .ok (.ireturn, 1) := by decide +kernel
theorem dX12_beside_0 : decode cX12_beside 0 = .ok (.aload_n 0, 1) := by decide +kernel
theorem dX12_beside_1 : decode cX12_beside 1 = .ok (.iload_n 1, 1) := by decide +kernel
theorem dX12_beside_2 : decode cX12_beside 2 = .ok (.invokevirtual 194, 3) := by decide +kernel
theorem dX12_beside_5 : decode cX12_beside 5 = .ok (.ifCond .eq 12, 3) := by decide +kernel
theorem dX12_beside_17 : decode cX12_beside 17 = .ok (.ldc2_w 456, 3) := by decide +kernel
theorem dX12_beside_20 : decode cX12_beside 20 = .ok (.lreturn, 1) := by decide +kernel
theorem dX12_bet_0 : decode cX12_bet 0 = .ok (.aload_n 0, 1) := by decide +kernel
theorem dX12_bet_1 : decode cX12_bet 1 = .ok (.iload_n 1, 1) := by decide +kernel
theorem dX12_bet_2 : decode cX12_bet 2 = .ok (.invokevirtual 194, 3) := by decide +kernel
theorem dX12_bet_5 : decode cX12_bet 5 = .ok (.ifCond .eq 23, 3) := by decide +kernel
theorem dX12_bet_28 : decode cX12_bet 28 = .ok (.aload_n 0, 1) := by decide +kernel
theorem dX12_bet_29 : decode cX12_bet 29 = .ok (.invokevirtual 186, 3) := by decide +kernel
theorem dX12_bet_32 : decode cX12_bet 32 = .ok (.ireturn, 1) := by decide +kernel
theorem dX12_cost_0 : decode cX12_cost 0 = .ok (.aload_n 0, 1) := by decide +kernel
theorem dX12_cost_1 : decode cX12_cost 1 = .ok (.iload_n 1, 1) := by decide +kernel
theorem dX12_cost_2 : decode cX12_cost 2 = .ok (.invokevirtual 194, 3) := by decide +kernel
theorem dX12_cost_5 : decode cX12_cost 5 = .ok (.ifCond .eq 32, 3) := by decide +kernel
theorem dX12_cost_37 : decode cX12_cost 37 = .ok (.ldc2_w 523, 3) := by decide +kernel
theorem dX12_cost_40 : decode cX12_cost 40 = .ok (.lreturn, 1) := by decide +kernel
theorem dX12_course_0 : decode cX12_course 0 = .ok (.iload_n 1, 1) := by decide +kernel
theorem dX12_course_1 : decode cX12_course 1 = .ok (.iconst 0, 1) := by decide +kernel
theorem dX12_course_2 : decode cX12_course 2 = .ok (.bipush 60, 2) := by decide +kernel
theorem dX12_course_4 : decode cX12_course 4 = .ok (.invokestatic 182, 3) := by decide +kernel
theorem dX12_course_7 : decode cX12_course 7 = .ok (.ifCond .eq 34, 3) := by decide +kernel
theorem dX12_course_10 : decode cX12_course 10 = .ok (.iload_n 2, 1) := by decide +kernel
theorem dX12_course_11 : decode cX12_course 11 = .ok (.iconst 0, 1) := by decide +kernel
theorem dX12_course_12 : decode cX12_course 12 = .ok (.bipush 60, 2) := by decide +kernel
theorem dX12_course_14 : decode cX12_course 14 = .ok (.invokestatic 182, 3) := by decide +kernel
theorem dX12_course_17 : decode cX12_course 17 = .ok (.ifCond .eq 24, 3) := by decide +kernel
theorem dX12_course_20 : decode cX12_course 20 = .ok (.iload_n 3, 1) := by decide +kernel
theorem dX12_course_21 : decode cX12_course 21 = .ok (.iconst 0, 1) := by decide +kernel
theorem dX12_course_22 : decode cX12_course 22 = .ok (.bipush 60, 2) := by decide +kernel
theorem dX12_course_24 : decode cX12_course 24 = .ok (.invokestatic 182, 3) := by decide +kernel
theorem dX12_course_27 : decode cX12_course 27 = .ok (.ifCond .eq 14, 3) := by decide +kernel
theorem dX12_course_30 : decode cX12_course 30 = .ok (.iload 4, 2) := by decide +kernel
theorem dX12_course_32 : decode cX12_course 32 = .ok (.iconst 0, 1) := by decide +kernel
theorem dX12_course_33 : decode cX12_course 33 = .ok (.bipush 60, 2) := by decide +kernel
theorem dX12_course_35 : decode cX12_course 35 = .ok (.invokestatic 182, 3) := by decide +kernel
theorem dX12_course_38 : decode cX12_course 38 = .ok (.ifCond .ne 9, 3) := by decide +kernel
theorem dX12_course_41 : decode cX12_course 41 = .ok (.aload_n 0, 1) := by decide +kernel
theorem dX12_course_42 : decode cX12_course 42 = .ok (.iconst 0, 1) := by decide +kernel
theorem dX12_course_43 : decode cX12_course 43 = .ok (.invokevirtual 174, 3) := by decide +kernel
theorem dX12_course_46 : decode cX12_course 46 = .ok (.ireturn, 1) := by decide +kernel
theorem dX12_course_47 : decode cX12_course 47 = .ok (.aload_n 0, 1) := by decide +kernel
theorem dX12_course_48 : decode cX12_course 48 = .ok (.getfield 13, 3) := by decide +kernel
theorem dX12_course_51 : decode cX12_course 51 = .ok (.iconst 0, 1) := by decide +kernel
theorem dX12_course_52 : decode cX12_course 52 = .ok (.iaload, 1) := by decide +kernel
theorem dX12_course_53 : decode cX12_course 53 = .ok (.bipush 6, 2) := by decide +kernel
theorem dX12_course_55 : decode cX12_course 55 = .ok (.if_icmp .ne 9, 3) := by decide +kernel
theorem dX12_course_64 : decode cX12_course 64 = .ok (.aload_n 0, 1) := by decide +kernel
theorem dX12_course_65 : decode cX12_course 65 = .ok (.getfield 13, 3) := by decide +kernel
theorem dX12_course_68 : decode cX12_course 68 = .ok (.iconst 0, 1) := by decide +kernel
theorem dX12_course_69 : decode cX12_course 69 = .ok (.iaload, 1) := by decide +kernel
theorem dX12_course_70 : decode cX12_course 70 = .ok (.istore 5, 2) := by decide +kernel
theorem dX12_course_72 : decode cX12_course 72 = .ok (.iconst 0, 1) := by decide +kernel
theorem dX12_course_73 : decode cX12_course 73 = .ok (.istore 6, 2) := by decide +kernel
theorem dX12_course_75 : decode cX12_course 75 = .ok (.iload 6, 2) := by decide +kernel
theorem dX12_course_77 : decode cX12_course 77 = .ok (.iconst 4, 1) := by decide +kernel
theorem dX12_course_78 : decode cX12_course 78 = .ok (.if_icmp .ge 52, 3) := by decide +kernel
theorem dX12_course_81 : decode cX12_course 81 = .ok (.aload_n 0, 1) := by decide +kernel
theorem dX12_course_82 : decode cX12_course 82 = .ok (.getfield 26, 3) := by decide +kernel
theorem dX12_course_85 : decode cX12_course 85 = .ok (.iconst 4, 1) := by decide +kernel
theorem dX12_course_86 : decode cX12_course 86 = .ok (.iload 5, 2) := by decide +kernel
theorem dX12_course_88 : decode cX12_course 88 = .ok (.imul, 1) := by decide +kernel
theorem dX12_course_89 : decode cX12_course 89 = .ok (.iload 6, 2) := by decide +kernel
theorem dX12_course_91 : decode cX12_course 91 = .ok (.iadd, 1) := by decide +kernel
theorem dX12_course_92 : decode cX12_course 92 = .ok (.iload 6, 2) := by decide +kernel
theorem dX12_course_94 : decode cX12_course 94 = .ok (.ifCond .ne 7, 3) := by decide +kernel
theorem dX12_course_97 : decode cX12_course 97 = .ok (.iload_n 1, 1) := by decide +kernel
theorem dX12_course_98 : decode cX12_course 98 = .ok (.goto 25, 3) := by decide +kernel
theorem dX12_course_101 : decode cX12_course 101 = .ok (.iload 6, 2) := by decide +kernel
theorem dX12_course_103 : decode cX12_course 103 = .ok (.iconst 1, 1) := by decide +kernel
theorem dX12_course_104 : decode cX12_course 104 = .ok (.if_icmp .ne 7, 3) := by decide +kernel
theorem dX12_course_107 : decode cX12_course 107 = .ok (.iload_n 2, 1) := by decide +kernel
theorem dX12_course_108 : decode cX12_course 108 = .ok (.goto 15, 3) := by decide +kernel
theorem dX12_course_111 : decode cX12_course 111 = .ok (.iload 6, 2) := by decide +kernel
theorem dX12_course_113 : decode cX12_course 113 = .ok (.iconst 2, 1) := by decide +kernel
theorem dX12_course_114 : decode cX12_course 114 = .ok (.if_icmp .ne 7, 3) := by decide +kernel
theorem dX12_course_117 : decode cX12_course 117 = .ok (.iload_n 3, 1) := by decide +kernel
theorem dX12_course_118 : decode cX12_course 118 = .ok (.goto 5, 3) := by decide +kernel
theorem dX12_course_121 : decode cX12_course 121 = .ok (.iload 4, 2) := by decide +kernel
theorem dX12_course_123 : decode cX12_course 123 = .ok (.iastore, 1) := by decide +kernel
theorem dX12_course_124 : decode cX12_course 124 = .ok (.iinc 6 1, 3) := by decide +kernel
theorem dX12_course_127 : decode cX12_course 127 = .ok (.goto (-52), 3) := by decide +kernel
theorem dX12_course_130 : decode cX12_course 130 = .ok (.aload_n 0, 1) := by decide +kernel
theorem dX12_course_131 : decode cX12_course 131 = .ok (.getfield 13, 3) := by decide +kernel
theorem dX12_course_134 : decode cX12_course 134 = .ok (.iconst 0, 1) := by decide +kernel
theorem dX12_course_135 : decode cX12_course 135 = .ok (.dup2, 1) := by decide +kernel
theorem dX12_course_136 : decode cX12_course 136 = .ok (.iaload, 1) := by decide +kernel
theorem dX12_course_137 : decode cX12_course 137 = .ok (.iconst 1, 1) := by decide +kernel
theorem dX12_course_138 : decode cX12_course 138 = .ok (.iadd, 1) := by decide +kernel
theorem dX12_course_139 : decode cX12_course 139 = .ok (.iastore, 1) := by decide +kernel
theorem dX12_course_140 : decode cX12_course 140 = .ok (.iload 5, 2) := by decide +kernel
theorem dX12_course_142 : decode cX12_course 142 = .ok (.ireturn, 1) := by decide +kernel
theorem dX12_cut_0 : decode cX12_cut 0 = .ok (.iload_n 1, 1) := by decide +kernel
theorem dX12_cut_1 : decode cX12_cut 1 = .ok (.invokestatic 190, 3) := by decide +kernel
theorem dX12_cut_4 : decode cX12_cut 4 = .ok (.ifCond .eq 30, 3) := by decide +kernel
theorem dX12_cut_7 : decode cX12_cut 7 = .ok (.iload_n 2, 1) := by decide +kernel
theorem dX12_cut_8 : decode cX12_cut 8 = .ok (.iconst 0, 1) := by decide +kernel
theorem dX12_cut_9 : decode cX12_cut 9 = .ok (.iconst 2, 1) := by decide +kernel
theorem dX12_cut_10 : decode cX12_cut 10 = .ok (.invokestatic 182, 3) := by decide +kernel
theorem dX12_cut_13 : decode cX12_cut 13 = .ok (.ifCond .eq 21, 3) := by decide +kernel
theorem dX12_cut_16 : decode cX12_cut 16 = .ok (.iload_n 3, 1) := by decide +kernel
theorem dX12_cut_17 : decode cX12_cut 17 = .ok (.iconst 0, 1) := by decide +kernel
theorem dX12_cut_18 : decode cX12_cut 18 = .ok (.iconst 3, 1) := by decide +kernel
theorem dX12_cut_19 : decode cX12_cut 19 = .ok (.invokestatic 182, 3) := by decide +kernel
theorem dX12_cut_22 : decode cX12_cut 22 = .ok (.ifCond .eq 12, 3) := by decide +kernel
theorem dX12_cut_25 : decode cX12_cut 25 = .ok (.aload_n 0, 1) := by decide +kernel
theorem dX12_cut_26 : decode cX12_cut 26 = .ok (.getfield 67, 3) := by decide +kernel
theorem dX12_cut_29 : decode cX12_cut 29 = .ok (.iload_n 2, 1) := by decide +kernel
theorem dX12_cut_30 : decode cX12_cut 30 = .ok (.iaload, 1) := by decide +kernel
theorem dX12_cut_31 : decode cX12_cut 31 = .ok (.ifCond .ne 5, 3) := by decide +kernel
theorem dX12_cut_34 : decode cX12_cut 34 = .ok (.iconst (-1), 1) := by decide +kernel
theorem dX12_cut_35 : decode cX12_cut 35 = .ok (.ireturn, 1) := by decide +kernel
theorem dX12_fault_0 : decode cX12_fault 0 = .ok (.aload_n 0, 1) := by decide +kernel
theorem dX12_fault_1 : decode cX12_fault 1 = .ok (.getfield 119, 3) := by decide +kernel
theorem dX12_fault_4 : decode cX12_fault 4 = .ok (.ireturn, 1) := by decide +kernel
theorem dX12_gift_0 : decode cX12_gift 0 = .ok (.aload_n 0, 1) := by decide +kernel
theorem dX12_gift_1 : decode cX12_gift 1 = .ok (.iload_n 1, 1) := by decide +kernel
theorem dX12_gift_2 : decode cX12_gift 2 = .ok (.invokevirtual 194, 3) := by decide +kernel
theorem dX12_gift_5 : decode cX12_gift 5 = .ok (.ifCond .eq 25, 3) := by decide +kernel
theorem dX12_gift_30 : decode cX12_gift 30 = .ok (.bipush (-100), 2) := by decide +kernel
theorem dX12_gift_32 : decode cX12_gift 32 = .ok (.ireturn, 1) := by decide +kernel
theorem dX12_isAhead_0 : decode cX12_isAhead 0 = .ok (.iload_n 0, 1) := by decide +kernel
theorem dX12_isAhead_1 : decode cX12_isAhead 1 = .ok (.ifCond .lt 13, 3) := by decide +kernel
theorem dX12_isAhead_4 : decode cX12_isAhead 4 = .ok (.iload_n 0, 1) := by decide +kernel
theorem dX12_isAhead_5 : decode cX12_isAhead 5 = .ok (.bipush 40, 2) := by decide +kernel
theorem dX12_isAhead_7 : decode cX12_isAhead 7 = .ok (.if_icmp .gt 7, 3) := by decide +kernel
theorem dX12_isAhead_10 : decode cX12_isAhead 10 = .ok (.iconst 1, 1) := by decide +kernel
theorem dX12_isAhead_11 : decode cX12_isAhead 11 = .ok (.goto 4, 3) := by decide +kernel
theorem dX12_isAhead_14 : decode cX12_isAhead 14 = .ok (.iconst 0, 1) := by decide +kernel
theorem dX12_isAhead_15 : decode cX12_isAhead 15 = .ok (.ireturn, 1) := by decide +kernel
theorem dX12_isNot_0 : decode cX12_isNot 0 = .ok (.aload_n 0, 1) := by decide +kernel
theorem dX12_isNot_1 : decode cX12_isNot 1 = .ok (.getfield 49, 3) := by decide +kernel
theorem dX12_isNot_4 : decode cX12_isNot 4 = .ok (.iconst 0, 1) := by decide +kernel
theorem dX12_isNot_5 : decode cX12_isNot 5 = .ok (.dup2, 1) := by decide +kernel
theorem dX12_isNot_6 : decode cX12_isNot 6 = .ok (.iaload, 1) := by decide +kernel
theorem dX12_isNot_7 : decode cX12_isNot 7 = .ok (.iconst 1, 1) := by decide +kernel
theorem dX12_isNot_8 : decode cX12_isNot 8 = .ok (.iadd, 1) := by decide +kernel
theorem dX12_isNot_9 : decode cX12_isNot 9 = .ok (.iastore, 1) := by decide +kernel
theorem dX12_isNot_10 : decode cX12_isNot 10 = .ok (.iconst 0, 1) := by decide +kernel
theorem dX12_isNot_11 : decode cX12_isNot 11 = .ok (.ireturn, 1) := by decide +kernel
theorem dX12_isPart_0 : decode cX12_isPart 0 = .ok (.iload_n 0, 1) := by decide +kernel
theorem dX12_isPart_1 : decode cX12_isPart 1 = .ok (.iconst (-1), 1) := by decide +kernel
theorem dX12_isPart_2 : decode cX12_isPart 2 = .ok (.if_icmp .lt 12, 3) := by decide +kernel
theorem dX12_isPart_5 : decode cX12_isPart 5 = .ok (.iload_n 0, 1) := by decide +kernel
theorem dX12_isPart_6 : decode cX12_isPart 6 = .ok (.iconst 3, 1) := by decide +kernel
theorem dX12_isPart_7 : decode cX12_isPart 7 = .ok (.if_icmp .gt 7, 3) := by decide +kernel
theorem dX12_isPart_10 : decode cX12_isPart 10 = .ok (.iconst 1, 1) := by decide +kernel
theorem dX12_isPart_11 : decode cX12_isPart 11 = .ok (.goto 4, 3) := by decide +kernel
theorem dX12_isPart_14 : decode cX12_isPart 14 = .ok (.iconst 0, 1) := by decide +kernel
theorem dX12_isPart_15 : decode cX12_isPart 15 = .ok (.ireturn, 1) := by decide +kernel
theorem dX12_isPlayer_0 : decode cX12_isPlayer 0 = .ok (.iload_n 1, 1) := by decide +kernel
theorem dX12_isPlayer_1 : decode cX12_isPlayer 1 = .ok (.ifCond .lt 17, 3) := by decide +kernel
theorem dX12_isPlayer_4 : decode cX12_isPlayer 4 = .ok (.iload_n 1, 1) := by decide +kernel
theorem dX12_isPlayer_5 : decode cX12_isPlayer 5 = .ok (.aload_n 0, 1) := by decide +kernel
theorem dX12_isPlayer_6 : decode cX12_isPlayer 6 = .ok (.getfield 7, 3) := by decide +kernel
theorem dX12_isPlayer_9 : decode cX12_isPlayer 9 = .ok (.iconst 0, 1) := by decide +kernel
theorem dX12_isPlayer_10 : decode cX12_isPlayer 10 = .ok (.iaload, 1) := by decide +kernel
theorem dX12_isPlayer_11 : decode cX12_isPlayer 11 = .ok (.if_icmp .ge 7, 3) := by decide +kernel
theorem dX12_isPlayer_18 : decode cX12_isPlayer 18 = .ok (.iconst 0, 1) := by decide +kernel
theorem dX12_isPlayer_19 : decode cX12_isPlayer 19 = .ok (.ireturn, 1) := by decide +kernel
theorem dX12_listed_0 : decode cX12_listed 0 = .ok (.iload_n 1, 1) := by decide +kernel
theorem dX12_listed_1 : decode cX12_listed 1 = .ok (.iload_n 2, 1) := by decide +kernel
theorem dX12_listed_2 : decode cX12_listed 2 = .ok (.invokestatic 408, 3) := by decide +kernel
theorem dX12_listed_5 : decode cX12_listed 5 = .ok (.ifCond .eq 11, 3) := by decide +kernel
theorem dX12_listed_8 : decode cX12_listed 8 = .ok (.aload_n 0, 1) := by decide +kernel
theorem dX12_listed_9 : decode cX12_listed 9 = .ok (.iload_n 3, 1) := by decide +kernel
theorem dX12_listed_10 : decode cX12_listed 10 = .ok (.invokevirtual 194, 3) := by decide +kernel
theorem dX12_listed_13 : decode cX12_listed 13 = .ok (.ifCond .ne 5, 3) := by decide +kernel
theorem dX12_listed_16 : decode cX12_listed 16 = .ok (.iconst (-1), 1) := by decide +kernel
theorem dX12_listed_17 : decode cX12_listed 17 = .ok (.ireturn, 1) := by decide +kernel
theorem dX12_odds_0 : decode cX12_odds 0 = .ok (.aload_n 0, 1) := by decide +kernel
theorem dX12_odds_1 : decode cX12_odds 1 = .ok (.iload_n 1, 1) := by decide +kernel
theorem dX12_odds_2 : decode cX12_odds 2 = .ok (.invokevirtual 194, 3) := by decide +kernel
theorem dX12_odds_5 : decode cX12_odds 5 = .ok (.ifCond .eq 35, 3) := by decide +kernel
theorem dX12_odds_40 : decode cX12_odds 40 = .ok (.iconst (-1), 1) := by decide +kernel
theorem dX12_odds_41 : decode cX12_odds 41 = .ok (.ireturn, 1) := by decide +kernel
theorem dX12_partOf_0 : decode cX12_partOf 0 = .ok (.iload_n 0, 1) := by decide +kernel
theorem dX12_partOf_1 : decode cX12_partOf 1 = .ok (.ifCond .ge 7, 3) := by decide +kernel
theorem dX12_partOf_4 : decode cX12_partOf 4 = .ok (.iconst 4, 1) := by decide +kernel
theorem dX12_partOf_5 : decode cX12_partOf 5 = .ok (.goto 4, 3) := by decide +kernel
theorem dX12_partOf_8 : decode cX12_partOf 8 = .ok (.iload_n 0, 1) := by decide +kernel
theorem dX12_partOf_9 : decode cX12_partOf 9 = .ok (.ireturn, 1) := by decide +kernel
theorem dX12_place_0 : decode cX12_place 0 = .ok (.aload_n 0, 1) := by decide +kernel
theorem dX12_place_1 : decode cX12_place 1 = .ok (.iload_n 1, 1) := by decide +kernel
theorem dX12_place_2 : decode cX12_place 2 = .ok (.invokevirtual 194, 3) := by decide +kernel
theorem dX12_place_5 : decode cX12_place 5 = .ok (.ifCond .eq 19, 3) := by decide +kernel
theorem dX12_place_24 : decode cX12_place 24 = .ok (.iconst (-1), 1) := by decide +kernel
theorem dX12_place_25 : decode cX12_place 25 = .ok (.ireturn, 1) := by decide +kernel
theorem dX12_player_0 : decode cX12_player 0 = .ok (.iload_n 1, 1) := by decide +kernel
theorem dX12_player_1 : decode cX12_player 1 = .ok (.bipush (-20), 2) := by decide +kernel
theorem dX12_player_3 : decode cX12_player 3 = .ok (.bipush 20, 2) := by decide +kernel
theorem dX12_player_5 : decode cX12_player 5 = .ok (.invokestatic 182, 3) := by decide +kernel
theorem dX12_player_8 : decode cX12_player 8 = .ok (.ifCond .eq 37, 3) := by decide +kernel
theorem dX12_player_11 : decode cX12_player 11 = .ok (.iload_n 2, 1) := by decide +kernel
theorem dX12_player_12 : decode cX12_player 12 = .ok (.bipush (-20), 2) := by decide +kernel
theorem dX12_player_14 : decode cX12_player 14 = .ok (.bipush 20, 2) := by decide +kernel
theorem dX12_player_16 : decode cX12_player 16 = .ok (.invokestatic 182, 3) := by decide +kernel
theorem dX12_player_19 : decode cX12_player 19 = .ok (.ifCond .eq 26, 3) := by decide +kernel
theorem dX12_player_22 : decode cX12_player 22 = .ok (.iload_n 3, 1) := by decide +kernel
theorem dX12_player_23 : decode cX12_player 23 = .ok (.bipush (-20), 2) := by decide +kernel
theorem dX12_player_25 : decode cX12_player 25 = .ok (.bipush 20, 2) := by decide +kernel
theorem dX12_player_27 : decode cX12_player 27 = .ok (.invokestatic 182, 3) := by decide +kernel
theorem dX12_player_30 : decode cX12_player 30 = .ok (.ifCond .eq 15, 3) := by decide +kernel
theorem dX12_player_33 : decode cX12_player 33 = .ok (.iload 4, 2) := by decide +kernel
theorem dX12_player_35 : decode cX12_player 35 = .ok (.bipush (-20), 2) := by decide +kernel
theorem dX12_player_37 : decode cX12_player 37 = .ok (.bipush 20, 2) := by decide +kernel
theorem dX12_player_39 : decode cX12_player 39 = .ok (.invokestatic 182, 3) := by decide +kernel
theorem dX12_player_42 : decode cX12_player 42 = .ok (.ifCond .ne 9, 3) := by decide +kernel
theorem dX12_player_45 : decode cX12_player 45 = .ok (.aload_n 0, 1) := by decide +kernel
theorem dX12_player_46 : decode cX12_player 46 = .ok (.iconst 0, 1) := by decide +kernel
theorem dX12_player_47 : decode cX12_player 47 = .ok (.invokevirtual 174, 3) := by decide +kernel
theorem dX12_player_50 : decode cX12_player 50 = .ok (.ireturn, 1) := by decide +kernel
theorem dX12_player_51 : decode cX12_player 51 = .ok (.aload_n 0, 1) := by decide +kernel
theorem dX12_player_52 : decode cX12_player 52 = .ok (.getfield 7, 3) := by decide +kernel
theorem dX12_player_55 : decode cX12_player 55 = .ok (.iconst 0, 1) := by decide +kernel
theorem dX12_player_56 : decode cX12_player 56 = .ok (.iaload, 1) := by decide +kernel
theorem dX12_player_57 : decode cX12_player 57 = .ok (.bipush 20, 2) := by decide +kernel
theorem dX12_player_59 : decode cX12_player 59 = .ok (.if_icmp .ne 9, 3) := by decide +kernel
theorem dX12_player_68 : decode cX12_player 68 = .ok (.aload_n 0, 1) := by decide +kernel
theorem dX12_player_69 : decode cX12_player 69 = .ok (.getfield 7, 3) := by decide +kernel
theorem dX12_player_72 : decode cX12_player 72 = .ok (.iconst 0, 1) := by decide +kernel
theorem dX12_player_73 : decode cX12_player 73 = .ok (.iaload, 1) := by decide +kernel
theorem dX12_player_74 : decode cX12_player 74 = .ok (.istore 5, 2) := by decide +kernel
theorem dX12_player_76 : decode cX12_player 76 = .ok (.iconst 0, 1) := by decide +kernel
theorem dX12_player_77 : decode cX12_player 77 = .ok (.istore 6, 2) := by decide +kernel
theorem dX12_player_79 : decode cX12_player 79 = .ok (.iload 6, 2) := by decide +kernel
theorem dX12_player_81 : decode cX12_player 81 = .ok (.iconst 4, 1) := by decide +kernel
theorem dX12_player_82 : decode cX12_player 82 = .ok (.if_icmp .ge 52, 3) := by decide +kernel
theorem dX12_player_85 : decode cX12_player 85 = .ok (.aload_n 0, 1) := by decide +kernel
theorem dX12_player_86 : decode cX12_player 86 = .ok (.getfield 23, 3) := by decide +kernel
theorem dX12_player_89 : decode cX12_player 89 = .ok (.iconst 4, 1) := by decide +kernel
theorem dX12_player_90 : decode cX12_player 90 = .ok (.iload 5, 2) := by decide +kernel
theorem dX12_player_92 : decode cX12_player 92 = .ok (.imul, 1) := by decide +kernel
theorem dX12_player_93 : decode cX12_player 93 = .ok (.iload 6, 2) := by decide +kernel
theorem dX12_player_95 : decode cX12_player 95 = .ok (.iadd, 1) := by decide +kernel
theorem dX12_player_96 : decode cX12_player 96 = .ok (.iload 6, 2) := by decide +kernel
theorem dX12_player_98 : decode cX12_player 98 = .ok (.ifCond .ne 7, 3) := by decide +kernel
theorem dX12_player_101 : decode cX12_player 101 = .ok (.iload_n 1, 1) := by decide +kernel
theorem dX12_player_102 : decode cX12_player 102 = .ok (.goto 25, 3) := by decide +kernel
theorem dX12_player_105 : decode cX12_player 105 = .ok (.iload 6, 2) := by decide +kernel
theorem dX12_player_107 : decode cX12_player 107 = .ok (.iconst 1, 1) := by decide +kernel
theorem dX12_player_108 : decode cX12_player 108 = .ok (.if_icmp .ne 7, 3) := by decide +kernel
theorem dX12_player_111 : decode cX12_player 111 = .ok (.iload_n 2, 1) := by decide +kernel
theorem dX12_player_112 : decode cX12_player 112 = .ok (.goto 15, 3) := by decide +kernel
theorem dX12_player_115 : decode cX12_player 115 = .ok (.iload 6, 2) := by decide +kernel
theorem dX12_player_117 : decode cX12_player 117 = .ok (.iconst 2, 1) := by decide +kernel
theorem dX12_player_118 : decode cX12_player 118 = .ok (.if_icmp .ne 7, 3) := by decide +kernel
theorem dX12_player_121 : decode cX12_player 121 = .ok (.iload_n 3, 1) := by decide +kernel
theorem dX12_player_122 : decode cX12_player 122 = .ok (.goto 5, 3) := by decide +kernel
theorem dX12_player_125 : decode cX12_player 125 = .ok (.iload 4, 2) := by decide +kernel
theorem dX12_player_127 : decode cX12_player 127 = .ok (.iastore, 1) := by decide +kernel
theorem dX12_player_128 : decode cX12_player 128 = .ok (.iinc 6 1, 3) := by decide +kernel
theorem dX12_player_131 : decode cX12_player 131 = .ok (.goto (-52), 3) := by decide +kernel
theorem dX12_player_134 : decode cX12_player 134 = .ok (.sipush 160, 3) := by decide +kernel
theorem dX12_player_137 : decode cX12_player 137 = .ok (.iload 5, 2) := by decide +kernel
theorem dX12_player_139 : decode cX12_player 139 = .ok (.imul, 1) := by decide +kernel
theorem dX12_player_140 : decode cX12_player 140 = .ok (.istore 6, 2) := by decide +kernel
theorem dX12_player_142 : decode cX12_player 142 = .ok (.iload 6, 2) := by decide +kernel
theorem dX12_player_144 : decode cX12_player 144 = .ok (.sipush 160, 3) := by decide +kernel
theorem dX12_player_147 : decode cX12_player 147 = .ok (.iload 5, 2) := by decide +kernel
theorem dX12_player_149 : decode cX12_player 149 = .ok (.imul, 1) := by decide +kernel
theorem dX12_player_150 : decode cX12_player 150 = .ok (.sipush 160, 3) := by decide +kernel
theorem dX12_player_153 : decode cX12_player 153 = .ok (.iadd, 1) := by decide +kernel
theorem dX12_player_154 : decode cX12_player 154 = .ok (.if_icmp .ge 17, 3) := by decide +kernel
theorem dX12_player_157 : decode cX12_player 157 = .ok (.aload_n 0, 1) := by decide +kernel
theorem dX12_player_158 : decode cX12_player 158 = .ok (.getfield 32, 3) := by decide +kernel
theorem dX12_player_161 : decode cX12_player 161 = .ok (.iload 6, 2) := by decide +kernel
theorem dX12_player_163 : decode cX12_player 163 = .ok (.iconst 0, 1) := by decide +kernel
theorem dX12_player_164 : decode cX12_player 164 = .ok (.bastore, 1) := by decide +kernel
theorem dX12_player_165 : decode cX12_player 165 = .ok (.iinc 6 1, 3) := by decide +kernel
theorem dX12_player_168 : decode cX12_player 168 = .ok (.goto (-26), 3) := by decide +kernel
theorem dX12_player_171 : decode cX12_player 171 = .ok (.iconst 0, 1) := by decide +kernel
theorem dX12_player_172 : decode cX12_player 172 = .ok (.istore 6, 2) := by decide +kernel
theorem dX12_player_174 : decode cX12_player 174 = .ok (.iload 6, 2) := by decide +kernel
theorem dX12_player_176 : decode cX12_player 176 = .ok (.bipush 40, 2) := by decide +kernel
theorem dX12_player_178 : decode cX12_player 178 = .ok (.if_icmp .ge 23, 3) := by decide +kernel
theorem dX12_player_181 : decode cX12_player 181 = .ok (.aload_n 0, 1) := by decide +kernel
theorem dX12_player_182 : decode cX12_player 182 = .ok (.getfield 36, 3) := by decide +kernel
theorem dX12_player_185 : decode cX12_player 185 = .ok (.bipush 40, 2) := by decide +kernel
theorem dX12_player_187 : decode cX12_player 187 = .ok (.iload 5, 2) := by decide +kernel
theorem dX12_player_189 : decode cX12_player 189 = .ok (.imul, 1) := by decide +kernel
theorem dX12_player_190 : decode cX12_player 190 = .ok (.iload 6, 2) := by decide +kernel
theorem dX12_player_192 : decode cX12_player 192 = .ok (.iadd, 1) := by decide +kernel
theorem dX12_player_193 : decode cX12_player 193 = .ok (.iconst 0, 1) := by decide +kernel
theorem dX12_player_194 : decode cX12_player 194 = .ok (.bastore, 1) := by decide +kernel
theorem dX12_player_195 : decode cX12_player 195 = .ok (.iinc 6 1, 3) := by decide +kernel
theorem dX12_player_198 : decode cX12_player 198 = .ok (.goto (-24), 3) := by decide +kernel
theorem dX12_player_201 : decode cX12_player 201 = .ok (.aload_n 0, 1) := by decide +kernel
theorem dX12_player_202 : decode cX12_player 202 = .ok (.getfield 7, 3) := by decide +kernel
theorem dX12_player_205 : decode cX12_player 205 = .ok (.iconst 0, 1) := by decide +kernel
theorem dX12_player_206 : decode cX12_player 206 = .ok (.dup2, 1) := by decide +kernel
theorem dX12_player_207 : decode cX12_player 207 = .ok (.iaload, 1) := by decide +kernel
theorem dX12_player_208 : decode cX12_player 208 = .ok (.iconst 1, 1) := by decide +kernel
theorem dX12_player_209 : decode cX12_player 209 = .ok (.iadd, 1) := by decide +kernel
theorem dX12_player_210 : decode cX12_player 210 = .ok (.iastore, 1) := by decide +kernel
theorem dX12_player_211 : decode cX12_player 211 = .ok (.iload 5, 2) := by decide +kernel
theorem dX12_player_213 : decode cX12_player 213 = .ok (.ireturn, 1) := by decide +kernel
theorem dX12_pressed_0 : decode cX12_pressed 0 = .ok (.aload_n 0, 1) := by decide +kernel
theorem dX12_pressed_1 : decode cX12_pressed 1 = .ok (.iload_n 1, 1) := by decide +kernel
theorem dX12_pressed_2 : decode cX12_pressed 2 = .ok (.invokevirtual 194, 3) := by decide +kernel
theorem dX12_pressed_5 : decode cX12_pressed 5 = .ok (.ifCond .eq 12, 3) := by decide +kernel
theorem dX12_pressed_17 : decode cX12_pressed 17 = .ok (.ldc2_w 222, 3) := by decide +kernel
theorem dX12_pressed_20 : decode cX12_pressed 20 = .ok (.lreturn, 1) := by decide +kernel
theorem dX12_refuses_0 : decode cX12_refuses 0 = .ok (.aload_n 0, 1) := by decide +kernel
theorem dX12_refuses_1 : decode cX12_refuses 1 = .ok (.getfield 49, 3) := by decide +kernel
theorem dX12_refuses_4 : decode cX12_refuses 4 = .ok (.iload_n 1, 1) := by decide +kernel
theorem dX12_refuses_5 : decode cX12_refuses 5 = .ok (.dup2, 1) := by decide +kernel
theorem dX12_refuses_6 : decode cX12_refuses 6 = .ok (.iaload, 1) := by decide +kernel
theorem dX12_refuses_7 : decode cX12_refuses 7 = .ok (.iconst 1, 1) := by decide +kernel
theorem dX12_refuses_8 : decode cX12_refuses 8 = .ok (.iadd, 1) := by decide +kernel
theorem dX12_refuses_9 : decode cX12_refuses 9 = .ok (.iastore, 1) := by decide +kernel
theorem dX12_refuses_10 : decode cX12_refuses 10 = .ok (.iconst (-1), 1) := by decide +kernel
theorem dX12_refuses_11 : decode cX12_refuses 11 = .ok (.ireturn, 1) := by decide +kernel
theorem dX12_round_0 : decode cX12_round 0 = .ok (.aload_n 0, 1) := by decide +kernel
theorem dX12_round_1 : decode cX12_round 1 = .ok (.iload_n 1, 1) := by decide +kernel
theorem dX12_round_2 : decode cX12_round 2 = .ok (.invokevirtual 194, 3) := by decide +kernel
theorem dX12_round_5 : decode cX12_round 5 = .ok (.ifCond .eq 40, 3) := by decide +kernel
theorem dX12_round_45 : decode cX12_round 45 = .ok (.aload_n 0, 1) := by decide +kernel
theorem dX12_round_46 : decode cX12_round 46 = .ok (.iconst 0, 1) := by decide +kernel
theorem dX12_round_47 : decode cX12_round 47 = .ok (.invokevirtual 174, 3) := by decide +kernel
theorem dX12_round_50 : decode cX12_round 50 = .ok (.ireturn, 1) := by decide +kernel
theorem dX12_run_0 : decode cX12_run 0 = .ok (.iconst 0, 1) := by decide +kernel
theorem dX12_run_1 : decode cX12_run 1 = .ok (.istore_n 3, 1) := by decide +kernel
theorem dX12_run_2 : decode cX12_run 2 = .ok (.iconst 0, 1) := by decide +kernel
theorem dX12_run_3 : decode cX12_run 3 = .ok (.istore 4, 2) := by decide +kernel
theorem dX12_run_5 : decode cX12_run 5 = .ok (.iload 4, 2) := by decide +kernel
theorem dX12_run_7 : decode cX12_run 7 = .ok (.aload_n 0, 1) := by decide +kernel
theorem dX12_run_8 : decode cX12_run 8 = .ok (.getfield 7, 3) := by decide +kernel
theorem dX12_run_11 : decode cX12_run 11 = .ok (.iconst 0, 1) := by decide +kernel
theorem dX12_run_12 : decode cX12_run 12 = .ok (.iaload, 1) := by decide +kernel
theorem dX12_run_13 : decode cX12_run 13 = .ok (.if_icmp .ge 31, 3) := by decide +kernel
theorem dX12_run_44 : decode cX12_run 44 = .ok (.iload_n 1, 1) := by decide +kernel
theorem dX12_run_45 : decode cX12_run 45 = .ok (.invokestatic 190, 3) := by decide +kernel
theorem dX12_run_48 : decode cX12_run 48 = .ok (.ifCond .eq 33, 3) := by decide +kernel
theorem dX12_run_51 : decode cX12_run 51 = .ok (.aload_n 0, 1) := by decide +kernel
theorem dX12_run_52 : decode cX12_run 52 = .ok (.getfield 29, 3) := by decide +kernel
theorem dX12_run_55 : decode cX12_run 55 = .ok (.iload_n 1, 1) := by decide +kernel
theorem dX12_run_56 : decode cX12_run 56 = .ok (.iaload, 1) := by decide +kernel
theorem dX12_run_57 : decode cX12_run 57 = .ok (.ifCond .lt 24, 3) := by decide +kernel
theorem dX12_run_81 : decode cX12_run 81 = .ok (.aload_n 0, 1) := by decide +kernel
theorem dX12_run_82 : decode cX12_run 82 = .ok (.iconst 0, 1) := by decide +kernel
theorem dX12_run_83 : decode cX12_run 83 = .ok (.invokevirtual 174, 3) := by decide +kernel
theorem dX12_run_86 : decode cX12_run 86 = .ok (.ireturn, 1) := by decide +kernel
theorem dX12_score_0 : decode cX12_score 0 = .ok (.aload_n 0, 1) := by decide +kernel
theorem dX12_score_1 : decode cX12_score 1 = .ok (.iload_n 1, 1) := by decide +kernel
theorem dX12_score_2 : decode cX12_score 2 = .ok (.invokevirtual 194, 3) := by decide +kernel
theorem dX12_score_5 : decode cX12_score 5 = .ok (.ifCond .eq 43, 3) := by decide +kernel
theorem dX12_score_48 : decode cX12_score 48 = .ok (.iconst (-1), 1) := by decide +kernel
theorem dX12_score_49 : decode cX12_score 49 = .ok (.ireturn, 1) := by decide +kernel
theorem dX12_seed_0 : decode cX12_seed 0 = .ok (.iload_n 1, 1) := by decide +kernel
theorem dX12_seed_1 : decode cX12_seed 1 = .ok (.iconst 0, 1) := by decide +kernel
theorem dX12_seed_2 : decode cX12_seed 2 = .ok (.ldc 205, 2) := by decide +kernel
theorem dX12_seed_4 : decode cX12_seed 4 = .ok (.invokestatic 182, 3) := by decide +kernel
theorem dX12_seed_7 : decode cX12_seed 7 = .ok (.ifCond .ne 8, 3) := by decide +kernel
theorem dX12_seed_10 : decode cX12_seed 10 = .ok (.aload_n 0, 1) := by decide +kernel
theorem dX12_seed_11 : decode cX12_seed 11 = .ok (.invokevirtual 186, 3) := by decide +kernel
theorem dX12_seed_14 : decode cX12_seed 14 = .ok (.ireturn, 1) := by decide +kernel
theorem dX12_seed_15 : decode cX12_seed 15 = .ok (.aload_n 0, 1) := by decide +kernel
theorem dX12_seed_16 : decode cX12_seed 16 = .ok (.getfield 19, 3) := by decide +kernel
theorem dX12_seed_19 : decode cX12_seed 19 = .ok (.iconst 0, 1) := by decide +kernel
theorem dX12_seed_20 : decode cX12_seed 20 = .ok (.iload_n 1, 1) := by decide +kernel
theorem dX12_seed_21 : decode cX12_seed 21 = .ok (.i2l, 1) := by decide +kernel
theorem dX12_seed_22 : decode cX12_seed 22 = .ok (.lastore, 1) := by decide +kernel
theorem dX12_seed_23 : decode cX12_seed 23 = .ok (.iconst 1, 1) := by decide +kernel
theorem dX12_seed_24 : decode cX12_seed 24 = .ok (.ireturn, 1) := by decide +kernel
theorem dX12_skill_0 : decode cX12_skill 0 = .ok (.aload_n 0, 1) := by decide +kernel
theorem dX12_skill_1 : decode cX12_skill 1 = .ok (.iload_n 1, 1) := by decide +kernel
theorem dX12_skill_2 : decode cX12_skill 2 = .ok (.invokevirtual 194, 3) := by decide +kernel
theorem dX12_skill_5 : decode cX12_skill 5 = .ok (.ifCond .eq 27, 3) := by decide +kernel
theorem dX12_skill_32 : decode cX12_skill 32 = .ok (.ldc2_w 456, 3) := by decide +kernel
theorem dX12_skill_35 : decode cX12_skill 35 = .ok (.lreturn, 1) := by decide +kernel
theorem dX12_span_0 : decode cX12_span 0 = .ok (.aload_n 0, 1) := by decide +kernel
theorem dX12_span_1 : decode cX12_span 1 = .ok (.iload_n 1, 1) := by decide +kernel
theorem dX12_span_2 : decode cX12_span 2 = .ok (.invokevirtual 194, 3) := by decide +kernel
theorem dX12_span_5 : decode cX12_span 5 = .ok (.ifCond .eq 27, 3) := by decide +kernel
theorem dX12_span_32 : decode cX12_span 32 = .ok (.ldc_w 461, 3) := by decide +kernel
theorem dX12_span_35 : decode cX12_span 35 = .ok (.ireturn, 1) := by decide +kernel
theorem dX12_week_0 : decode cX12_week 0 = .ok (.iload_n 1, 1) := by decide +kernel
theorem dX12_week_1 : decode cX12_week 1 = .ok (.invokestatic 190, 3) := by decide +kernel
theorem dX12_week_4 : decode cX12_week 4 = .ok (.ifCond .eq 28, 3) := by decide +kernel
theorem dX12_week_7 : decode cX12_week 7 = .ok (.iload_n 2, 1) := by decide +kernel
theorem dX12_week_8 : decode cX12_week 8 = .ok (.iconst 0, 1) := by decide +kernel
theorem dX12_week_9 : decode cX12_week 9 = .ok (.aload_n 0, 1) := by decide +kernel
theorem dX12_week_10 : decode cX12_week 10 = .ok (.getfield 13, 3) := by decide +kernel
theorem dX12_week_13 : decode cX12_week 13 = .ok (.iconst 0, 1) := by decide +kernel
theorem dX12_week_14 : decode cX12_week 14 = .ok (.iaload, 1) := by decide +kernel
theorem dX12_week_15 : decode cX12_week 15 = .ok (.iconst 1, 1) := by decide +kernel
theorem dX12_week_16 : decode cX12_week 16 = .ok (.isub, 1) := by decide +kernel
theorem dX12_week_17 : decode cX12_week 17 = .ok (.invokestatic 182, 3) := by decide +kernel
theorem dX12_week_20 : decode cX12_week 20 = .ok (.ifCond .eq 12, 3) := by decide +kernel
theorem dX12_week_32 : decode cX12_week 32 = .ok (.aload_n 0, 1) := by decide +kernel
theorem dX12_week_33 : decode cX12_week 33 = .ok (.invokevirtual 186, 3) := by decide +kernel
theorem dX12_week_36 : decode cX12_week 36 = .ok (.ireturn, 1) := by decide +kernel
theorem dX12_won_0 : decode cX12_won 0 = .ok (.aload_n 0, 1) := by decide +kernel
theorem dX12_won_1 : decode cX12_won 1 = .ok (.iload_n 1, 1) := by decide +kernel
theorem dX12_won_2 : decode cX12_won 2 = .ok (.invokevirtual 194, 3) := by decide +kernel
theorem dX12_won_5 : decode cX12_won 5 = .ok (.ifCond .eq 21, 3) := by decide +kernel
theorem dX12_won_26 : decode cX12_won 26 = .ok (.iconst (-1), 1) := by decide +kernel
theorem dX12_won_27 : decode cX12_won 27 = .ok (.ireturn, 1) := by decide +kernel
theorem dX12_years_0 : decode cX12_years 0 = .ok (.aload_n 0, 1) := by decide +kernel
theorem dX12_years_1 : decode cX12_years 1 = .ok (.iload_n 1, 1) := by decide +kernel
theorem dX12_years_2 : decode cX12_years 2 = .ok (.invokevirtual 194, 3) := by decide +kernel
theorem dX12_years_5 : decode cX12_years 5 = .ok (.ifCond .ne 5, 3) := by decide +kernel
theorem dX12_years_8 : decode cX12_years 8 = .ok (.iconst (-1), 1) := by decide +kernel
theorem dX12_years_9 : decode cX12_years 9 = .ok (.ireturn, 1) := by decide +kernel
set_option maxHeartbeats 4000000 in
set_option maxRecDepth 100000 in
theorem c_areWeeksM (l : Launch) (D : va_G) (cI cJ cZ cB : ClassId) (cO : ClassId) (wf wt : Int32) :
    CI l D [(cI, .int), (cJ, .long), (cZ, .boolean), (cB, .byte), (cO, .object "LuckLinks$World")] yX12_areWeeks cX12_areWeeks 2 (some .boolean) ({ frames := 1, cells := 0, slots := 0, locals := 20 } : Room) [.int wf, .int wt] [] (fun (r : Int32) (u : Unit) => (r = (1 : Int32) ∧ (0 ≤ wf.toInt ∧ wf.toInt ≤ wt.toInt ∧ wt.toInt ≤ 39)) ∨ (r = (0 : Int32) ∧ (wf.toInt < 0 ∨ wt.toInt < wf.toInt ∨ 39 < wt.toInt))) (fun (_ : Unit) => []) := by
  intro sz
  refine body_of (y := yX12_areWeeks) (cc := cX12_areWeeks) (maxL := 2) (ret := (some .boolean)) (rm := ({ frames := 1, cells := 0, slots := 0, locals := 20 } : Room)) (wc := []) (tys := [(cI, .int), (cJ, .long), (cZ, .boolean), (cB, .byte), (cO, .object "LuckLinks$World")]) (D := D) (sz := sz) (own := RX12) (av := [.int wf, .int wt]) (Qc := fun A => va_Qi (fun (r : Int32) (u : Unit) => (r = (1 : Int32) ∧ (0 ≤ wf.toInt ∧ wf.toInt ≤ wt.toInt ∧ wt.toInt ≤ 39)) ∨ (r = (0 : Int32) ∧ (wf.toInt < 0 ∨ wt.toInt < wf.toInt ∨ 39 < wt.toInt))) (fun u t => Aft D A ((fun (_ : Unit) => []) u) t) A) (by decide) rfl (Nat.le_of_ble_eq_true rfl) (fun p e s m below meth c A ls C hr hlk hin X hl => ?_)
  have hx := C.1
  have hb := C.2.1
  have hown := C.2.2.2.1
  have hts := C.2.2.2.2.1
  have hl : lv_has ls 2 [(0, .int wf), (1, .int wt)] := hl
  show W p l e _ s m _ below meth c s.heap [] 0 0 (MQ below (va_Qi (fun (r : Int32) (u : Unit) => (r = (1 : Int32) ∧ (0 ≤ wf.toInt ∧ wf.toInt ≤ wt.toInt ∧ wt.toInt ≤ 39)) ∨ (r = (0 : Int32) ∧ (wf.toInt < 0 ∨ wt.toInt < wf.toInt ∨ 39 < wt.toInt))) (fun u t => Aft D A ((fun (_ : Unit) => []) u) t) A) ([.int wf, .int wt] : List Value).toArray s 0 0 A) (F0 m 0 ls [])
  have X : Wd D A s [] s.heap [] := X
  obtain ⟨H, locs, eH, eL⟩ : ∃ H locs, H = s.heap ∧ locs = ([] : List Loc) := ⟨_, _, rfl, rfl⟩
  rw [← eH, ← eL] at X ⊢
  clear eH eL
  refine lv_iload_n hx hb dX12_areWeeks_0 rfl (lv_at hl 0 rfl) ?_
  refine x_cS (own := RX12) (wr := []) (As := [.int wf]) C X hl.1 (c_isWeekM l D cI cJ cZ cB cO wf) [] [] ⟨rfl, rfl, by decide, by decide, by decide⟩ k_14_11 k_14_12 k_1_5 k_14_13 (n := 1) (by decide +kernel) ⟨Nat.le_of_ble_eq_true rfl, Nat.le_of_ble_eq_true rfl⟩ rfl rfl (Nat.le_of_ble_eq_true rfl) dX12_areWeeks_1 ⟨Nat.le_of_ble_eq_true rfl, Nat.le_of_ble_eq_true rfl⟩ (fun r_2 u_1 H locs w_3 X => ?_)
  have X : Wd D A s [] H locs := X
  refine W.widen (k := 0) (n := 0) (Nat.le_of_ble_eq_true rfl) (Nat.le_of_ble_eq_true rfl) ?_
  obtain ⟨rfl, fw_3⟩ | ⟨rfl, fw_3⟩ : (r_2 = (1 : Int32) ∧ (0 ≤ (wf).toInt ∧ (wf).toInt ≤ 39)) ∨ (r_2 = (0 : Int32) ∧ ((wf).toInt < 0 ∨ 39 < (wf).toInt)) := w_3
  · refine lv_if_eq (tgt := 23) hx hb dX12_areWeeks_4 (by decide) (fun c0 => absurd c0 (by decide)) (fun _ => ?_)
    refine lv_iload_n hx hb dX12_areWeeks_7 rfl (lv_at hl 1 rfl) ?_
    refine x_cS (own := RX12) (wr := []) (As := [.int wt]) C X hl.1 (c_isWeekM l D cI cJ cZ cB cO wt) [] [] ⟨rfl, rfl, by decide, by decide, by decide⟩ k_14_11 k_14_12 k_1_5 k_14_13 (n := 1) (by decide +kernel) ⟨Nat.le_of_ble_eq_true rfl, Nat.le_of_ble_eq_true rfl⟩ rfl rfl (Nat.le_of_ble_eq_true rfl) dX12_areWeeks_8 ⟨Nat.le_of_ble_eq_true rfl, Nat.le_of_ble_eq_true rfl⟩ (fun r_5 u_4 H locs w_6 X => ?_)
    have X : Wd D A s [] H locs := X
    refine W.widen (k := 0) (n := 0) (Nat.le_of_ble_eq_true rfl) (Nat.le_of_ble_eq_true rfl) ?_
    obtain ⟨rfl, fw_6⟩ | ⟨rfl, fw_6⟩ : (r_5 = (1 : Int32) ∧ (0 ≤ (wt).toInt ∧ (wt).toInt ≤ 39)) ∨ (r_5 = (0 : Int32) ∧ ((wt).toInt < 0 ∨ 39 < (wt).toInt)) := w_6
    · refine lv_if_eq (tgt := 23) hx hb dX12_areWeeks_11 (by decide) (fun c0 => absurd c0 (by decide)) (fun _ => ?_)
      refine lv_iload_n hx hb dX12_areWeeks_14 rfl (lv_at hl 0 rfl) ?_
      refine lv_iload_n hx hb dX12_areWeeks_15 rfl (lv_at hl 1 rfl) ?_
      refine lv_icmp_gt (tgt := 23) hx hb dX12_areWeeks_16 (by decide) (fun c_7 => ?_) (fun c_7 => ?_)
      · have fc_7 : (wt).toInt < (wf).toInt := i_lt c_7
        refine lv_iconst (v := (0 : Int32)) hx hb dX12_areWeeks_23 (by decide) ?_
        exact x_iret C X hr hlk (v := (0 : Int32)) (by first | rfl | decide) (()) [] (by decide) rfl (Or.inr (⟨rfl, by omega⟩)) (Nat.le_of_ble_eq_true rfl) (Nat.le_of_ble_eq_true rfl) dX12_areWeeks_24
      · have fc_7 : (wf).toInt ≤ (wt).toInt := i_nlt c_7
        refine lv_iconst (v := (1 : Int32)) hx hb dX12_areWeeks_19 (by decide) ?_
        refine lv_goto (tgt := 24) hx hb dX12_areWeeks_20 (by decide) ?_
        exact x_iret C X hr hlk (v := (1 : Int32)) (by first | rfl | decide) (()) [] (by decide) rfl (Or.inl (⟨rfl, by omega⟩)) (Nat.le_of_ble_eq_true rfl) (Nat.le_of_ble_eq_true rfl) dX12_areWeeks_24
    · refine lv_if_eq (tgt := 23) hx hb dX12_areWeeks_11 (by decide) (fun _ => ?_) (fun c0 => absurd (by decide) c0)
      refine lv_iconst (v := (0 : Int32)) hx hb dX12_areWeeks_23 (by decide) ?_
      exact x_iret C X hr hlk (v := (0 : Int32)) (by first | rfl | decide) (()) [] (by decide) rfl (Or.inr (⟨rfl, by omega⟩)) (Nat.le_of_ble_eq_true rfl) (Nat.le_of_ble_eq_true rfl) dX12_areWeeks_24
  · refine lv_if_eq (tgt := 23) hx hb dX12_areWeeks_4 (by decide) (fun _ => ?_) (fun c0 => absurd (by decide) c0)
    refine lv_iconst (v := (0 : Int32)) hx hb dX12_areWeeks_23 (by decide) ?_
    exact x_iret C X hr hlk (v := (0 : Int32)) (by first | rfl | decide) (()) [] (by decide) rfl (Or.inr (⟨rfl, by omega⟩)) (Nat.le_of_ble_eq_true rfl) (Nat.le_of_ble_eq_true rfl) dX12_areWeeks_24
set_option maxHeartbeats 4000000 in
set_option maxRecDepth 100000 in
theorem c_areHalvesM (l : Launch) (D : va_G) (cI cJ cZ cB : ClassId) (cO : ClassId) (wf wh wt : Int32) :
    CI l D [(cI, .int), (cJ, .long), (cZ, .boolean), (cB, .byte), (cO, .object "LuckLinks$World")] yX12_areHalves cX12_areHalves 3 (some .boolean) ({ frames := 1, cells := 0, slots := 0, locals := 20 } : Room) [.int wf, .int wh, .int wt] [] (fun (r : Int32) (u : Unit) => (r = (1 : Int32) ∧ (0 ≤ (wf).toInt ∧ (wf).toInt < (wh).toInt ∧ (wh).toInt ≤ (wt).toInt ∧ (wt).toInt ≤ 39)) ∨ (r = (0 : Int32) ∧ ((wf).toInt < 0 ∨ (wh).toInt ≤ (wf).toInt ∨ (wt).toInt < (wh).toInt ∨ 39 < (wt).toInt))) (fun (_ : Unit) => []) := by
  intro sz
  refine body_of (y := yX12_areHalves) (cc := cX12_areHalves) (maxL := 3) (ret := (some .boolean)) (rm := ({ frames := 1, cells := 0, slots := 0, locals := 20 } : Room)) (wc := []) (tys := [(cI, .int), (cJ, .long), (cZ, .boolean), (cB, .byte), (cO, .object "LuckLinks$World")]) (D := D) (sz := sz) (own := RX12) (av := [.int wf, .int wh, .int wt]) (Qc := fun A => va_Qi (fun (r : Int32) (u : Unit) => (r = (1 : Int32) ∧ (0 ≤ (wf).toInt ∧ (wf).toInt < (wh).toInt ∧ (wh).toInt ≤ (wt).toInt ∧ (wt).toInt ≤ 39)) ∨ (r = (0 : Int32) ∧ ((wf).toInt < 0 ∨ (wh).toInt ≤ (wf).toInt ∨ (wt).toInt < (wh).toInt ∨ 39 < (wt).toInt))) (fun u t => Aft D A ((fun (_ : Unit) => []) u) t) A) (by decide) rfl (Nat.le_of_ble_eq_true rfl) (fun p e s m below meth c A ls C hr hlk hin X hl => ?_)
  have hx := C.1
  have hb := C.2.1
  have hown := C.2.2.2.1
  have hts := C.2.2.2.2.1
  have hl : lv_has ls 3 [(0, .int wf), (1, .int wh), (2, .int wt)] := hl
  show W p l e _ s m _ below meth c s.heap [] 0 0 (MQ below (va_Qi (fun (r : Int32) (u : Unit) => (r = (1 : Int32) ∧ (0 ≤ (wf).toInt ∧ (wf).toInt < (wh).toInt ∧ (wh).toInt ≤ (wt).toInt ∧ (wt).toInt ≤ 39)) ∨ (r = (0 : Int32) ∧ ((wf).toInt < 0 ∨ (wh).toInt ≤ (wf).toInt ∨ (wt).toInt < (wh).toInt ∨ 39 < (wt).toInt))) (fun u t => Aft D A ((fun (_ : Unit) => []) u) t) A) ([.int wf, .int wh, .int wt] : List Value).toArray s 0 0 A) (F0 m 0 ls [])
  have X : Wd D A s [] s.heap [] := X
  obtain ⟨H, locs, eH, eL⟩ : ∃ H locs, H = s.heap ∧ locs = ([] : List Loc) := ⟨_, _, rfl, rfl⟩
  rw [← eH, ← eL] at X ⊢
  clear eH eL
  refine lv_iload_n hx hb dX12_areHalves_0 rfl (lv_at hl 0 rfl) ?_
  refine x_cS (own := RX12) (wr := []) (As := [.int wf]) C X hl.1 (c_isWeekM l D cI cJ cZ cB cO wf) [] [] ⟨rfl, rfl, by decide, by decide, by decide⟩ k_14_11 k_14_12 k_1_5 k_14_13 (n := 1) (by decide +kernel) ⟨Nat.le_of_ble_eq_true rfl, Nat.le_of_ble_eq_true rfl⟩ rfl rfl (Nat.le_of_ble_eq_true rfl) dX12_areHalves_1 ⟨Nat.le_of_ble_eq_true rfl, Nat.le_of_ble_eq_true rfl⟩ (fun r_2 u_1 H locs w_3 X => ?_)
  have X : Wd D A s [] H locs := X
  refine W.widen (k := 0) (n := 0) (Nat.le_of_ble_eq_true rfl) (Nat.le_of_ble_eq_true rfl) ?_
  obtain ⟨rfl, fw_3⟩ | ⟨rfl, fw_3⟩ : (r_2 = (1 : Int32) ∧ (0 ≤ (wf).toInt ∧ (wf).toInt ≤ 39)) ∨ (r_2 = (0 : Int32) ∧ ((wf).toInt < 0 ∨ 39 < (wf).toInt)) := w_3
  · refine lv_if_eq (tgt := 35) hx hb dX12_areHalves_4 (by decide) (fun c0 => absurd c0 (by decide)) (fun _ => ?_)
    refine lv_iload_n hx hb dX12_areHalves_7 rfl (lv_at hl 1 rfl) ?_
    refine x_cS (own := RX12) (wr := []) (As := [.int wh]) C X hl.1 (c_isWeekM l D cI cJ cZ cB cO wh) [] [] ⟨rfl, rfl, by decide, by decide, by decide⟩ k_14_11 k_14_12 k_1_5 k_14_13 (n := 1) (by decide +kernel) ⟨Nat.le_of_ble_eq_true rfl, Nat.le_of_ble_eq_true rfl⟩ rfl rfl (Nat.le_of_ble_eq_true rfl) dX12_areHalves_8 ⟨Nat.le_of_ble_eq_true rfl, Nat.le_of_ble_eq_true rfl⟩ (fun r_5 u_4 H locs w_6 X => ?_)
    have X : Wd D A s [] H locs := X
    refine W.widen (k := 0) (n := 0) (Nat.le_of_ble_eq_true rfl) (Nat.le_of_ble_eq_true rfl) ?_
    obtain ⟨rfl, fw_6⟩ | ⟨rfl, fw_6⟩ : (r_5 = (1 : Int32) ∧ (0 ≤ (wh).toInt ∧ (wh).toInt ≤ 39)) ∨ (r_5 = (0 : Int32) ∧ ((wh).toInt < 0 ∨ 39 < (wh).toInt)) := w_6
    · refine lv_if_eq (tgt := 35) hx hb dX12_areHalves_11 (by decide) (fun c0 => absurd c0 (by decide)) (fun _ => ?_)
      refine lv_iload_n hx hb dX12_areHalves_14 rfl (lv_at hl 2 rfl) ?_
      refine x_cS (own := RX12) (wr := []) (As := [.int wt]) C X hl.1 (c_isWeekM l D cI cJ cZ cB cO wt) [] [] ⟨rfl, rfl, by decide, by decide, by decide⟩ k_14_11 k_14_12 k_1_5 k_14_13 (n := 1) (by decide +kernel) ⟨Nat.le_of_ble_eq_true rfl, Nat.le_of_ble_eq_true rfl⟩ rfl rfl (Nat.le_of_ble_eq_true rfl) dX12_areHalves_15 ⟨Nat.le_of_ble_eq_true rfl, Nat.le_of_ble_eq_true rfl⟩ (fun r_8 u_7 H locs w_9 X => ?_)
      have X : Wd D A s [] H locs := X
      refine W.widen (k := 0) (n := 0) (Nat.le_of_ble_eq_true rfl) (Nat.le_of_ble_eq_true rfl) ?_
      obtain ⟨rfl, fw_9⟩ | ⟨rfl, fw_9⟩ : (r_8 = (1 : Int32) ∧ (0 ≤ (wt).toInt ∧ (wt).toInt ≤ 39)) ∨ (r_8 = (0 : Int32) ∧ ((wt).toInt < 0 ∨ 39 < (wt).toInt)) := w_9
      · refine lv_if_eq (tgt := 35) hx hb dX12_areHalves_18 (by decide) (fun c0 => absurd c0 (by decide)) (fun _ => ?_)
        refine lv_iload_n hx hb dX12_areHalves_21 rfl (lv_at hl 0 rfl) ?_
        refine lv_iload_n hx hb dX12_areHalves_22 rfl (lv_at hl 1 rfl) ?_
        refine lv_icmp_ge (tgt := 35) hx hb dX12_areHalves_23 (by decide) (fun c_10 => ?_) (fun c_10 => ?_)
        · have fc_10 : (wh).toInt ≤ (wf).toInt := i_le c_10
          refine lv_iconst (v := (0 : Int32)) hx hb dX12_areHalves_35 (by decide) ?_
          exact x_iret C X hr hlk (v := (0 : Int32)) (by first | rfl | decide) (()) [] (by decide) rfl (Or.inr (⟨rfl, by omega⟩)) (Nat.le_of_ble_eq_true rfl) (Nat.le_of_ble_eq_true rfl) dX12_areHalves_36
        · have fc_10 : (wf).toInt < (wh).toInt := i_nle c_10
          refine lv_iload_n hx hb dX12_areHalves_26 rfl (lv_at hl 1 rfl) ?_
          refine lv_iload_n hx hb dX12_areHalves_27 rfl (lv_at hl 2 rfl) ?_
          refine lv_icmp_gt (tgt := 35) hx hb dX12_areHalves_28 (by decide) (fun c_11 => ?_) (fun c_11 => ?_)
          · have fc_11 : (wt).toInt < (wh).toInt := i_lt c_11
            refine lv_iconst (v := (0 : Int32)) hx hb dX12_areHalves_35 (by decide) ?_
            exact x_iret C X hr hlk (v := (0 : Int32)) (by first | rfl | decide) (()) [] (by decide) rfl (Or.inr (⟨rfl, by omega⟩)) (Nat.le_of_ble_eq_true rfl) (Nat.le_of_ble_eq_true rfl) dX12_areHalves_36
          · have fc_11 : (wh).toInt ≤ (wt).toInt := i_nlt c_11
            refine lv_iconst (v := (1 : Int32)) hx hb dX12_areHalves_31 (by decide) ?_
            refine lv_goto (tgt := 36) hx hb dX12_areHalves_32 (by decide) ?_
            exact x_iret C X hr hlk (v := (1 : Int32)) (by first | rfl | decide) (()) [] (by decide) rfl (Or.inl (⟨rfl, by omega⟩)) (Nat.le_of_ble_eq_true rfl) (Nat.le_of_ble_eq_true rfl) dX12_areHalves_36
      · refine lv_if_eq (tgt := 35) hx hb dX12_areHalves_18 (by decide) (fun _ => ?_) (fun c0 => absurd (by decide) c0)
        refine lv_iconst (v := (0 : Int32)) hx hb dX12_areHalves_35 (by decide) ?_
        exact x_iret C X hr hlk (v := (0 : Int32)) (by first | rfl | decide) (()) [] (by decide) rfl (Or.inr (⟨rfl, by omega⟩)) (Nat.le_of_ble_eq_true rfl) (Nat.le_of_ble_eq_true rfl) dX12_areHalves_36
    · refine lv_if_eq (tgt := 35) hx hb dX12_areHalves_11 (by decide) (fun _ => ?_) (fun c0 => absurd (by decide) c0)
      refine lv_iconst (v := (0 : Int32)) hx hb dX12_areHalves_35 (by decide) ?_
      exact x_iret C X hr hlk (v := (0 : Int32)) (by first | rfl | decide) (()) [] (by decide) rfl (Or.inr (⟨rfl, by omega⟩)) (Nat.le_of_ble_eq_true rfl) (Nat.le_of_ble_eq_true rfl) dX12_areHalves_36
  · refine lv_if_eq (tgt := 35) hx hb dX12_areHalves_4 (by decide) (fun _ => ?_) (fun c0 => absurd (by decide) c0)
    refine lv_iconst (v := (0 : Int32)) hx hb dX12_areHalves_35 (by decide) ?_
    exact x_iret C X hr hlk (v := (0 : Int32)) (by first | rfl | decide) (()) [] (by decide) rfl (Or.inr (⟨rfl, by omega⟩)) (Nat.le_of_ble_eq_true rfl) (Nat.le_of_ble_eq_true rfl) dX12_areHalves_36
set_option maxHeartbeats 4000000 in
set_option maxRecDepth 100000 in
theorem c_isPartM (l : Launch) (D : va_G) (cI cJ cZ cB : ClassId) (cO : ClassId) (v : Int32) :
    CI l D [(cI, .int), (cJ, .long), (cZ, .boolean), (cB, .byte), (cO, .object "LuckLinks$World")] yX12_isPart cX12_isPart 1 (some .boolean) ({ frames := 0, cells := 0, slots := 0, locals := 0 } : Room) [.int v] [] (fun (r : Int32) (u : Unit) => (r = (1 : Int32) ∧ (-1 ≤ (v).toInt ∧ (v).toInt ≤ 3)) ∨ (r = (0 : Int32) ∧ ((v).toInt < -1 ∨ 3 < (v).toInt))) (fun (_ : Unit) => []) := by
  intro sz
  refine body_of (y := yX12_isPart) (cc := cX12_isPart) (maxL := 1) (ret := (some .boolean)) (rm := ({ frames := 0, cells := 0, slots := 0, locals := 0 } : Room)) (wc := []) (tys := [(cI, .int), (cJ, .long), (cZ, .boolean), (cB, .byte), (cO, .object "LuckLinks$World")]) (D := D) (sz := sz) (own := RX12) (av := [.int v]) (Qc := fun A => va_Qi (fun (r : Int32) (u : Unit) => (r = (1 : Int32) ∧ (-1 ≤ (v).toInt ∧ (v).toInt ≤ 3)) ∨ (r = (0 : Int32) ∧ ((v).toInt < -1 ∨ 3 < (v).toInt))) (fun u t => Aft D A ((fun (_ : Unit) => []) u) t) A) (by decide) rfl (Nat.le_of_ble_eq_true rfl) (fun p e s m below meth c A ls C hr hlk hin X hl => ?_)
  have hx := C.1
  have hb := C.2.1
  have hown := C.2.2.2.1
  have hts := C.2.2.2.2.1
  have hl : lv_has ls 1 [(0, .int v)] := hl
  show W p l e _ s m _ below meth c s.heap [] 0 0 (MQ below (va_Qi (fun (r : Int32) (u : Unit) => (r = (1 : Int32) ∧ (-1 ≤ (v).toInt ∧ (v).toInt ≤ 3)) ∨ (r = (0 : Int32) ∧ ((v).toInt < -1 ∨ 3 < (v).toInt))) (fun u t => Aft D A ((fun (_ : Unit) => []) u) t) A) ([.int v] : List Value).toArray s 0 0 A) (F0 m 0 ls [])
  have X : Wd D A s [] s.heap [] := X
  obtain ⟨H, locs, eH, eL⟩ : ∃ H locs, H = s.heap ∧ locs = ([] : List Loc) := ⟨_, _, rfl, rfl⟩
  rw [← eH, ← eL] at X ⊢
  clear eH eL
  refine lv_iload_n hx hb dX12_isPart_0 rfl (lv_at hl 0 rfl) ?_
  refine lv_iconst (v := (-1 : Int32)) hx hb dX12_isPart_1 (by decide) ?_
  refine lv_icmp_lt (tgt := 14) hx hb dX12_isPart_2 (by decide) (fun c_1 => ?_) (fun c_1 => ?_)
  · have fc_1 : (v).toInt < (-1 : Int) := i_lt c_1
    refine lv_iconst (v := (0 : Int32)) hx hb dX12_isPart_14 (by decide) ?_
    exact x_iret C X hr hlk (v := (0 : Int32)) (by first | rfl | decide) (()) [] (by decide) rfl (Or.inr (⟨rfl, by omega⟩)) (Nat.le_of_ble_eq_true rfl) (Nat.le_of_ble_eq_true rfl) dX12_isPart_15
  · have fc_1 : (-1 : Int) ≤ (v).toInt := i_nlt c_1
    refine lv_iload_n hx hb dX12_isPart_5 rfl (lv_at hl 0 rfl) ?_
    refine lv_iconst (v := (3 : Int32)) hx hb dX12_isPart_6 (by decide) ?_
    refine lv_icmp_gt (tgt := 14) hx hb dX12_isPart_7 (by decide) (fun c_2 => ?_) (fun c_2 => ?_)
    · have fc_2 : (3 : Int) < (v).toInt := i_lt c_2
      refine lv_iconst (v := (0 : Int32)) hx hb dX12_isPart_14 (by decide) ?_
      exact x_iret C X hr hlk (v := (0 : Int32)) (by first | rfl | decide) (()) [] (by decide) rfl (Or.inr (⟨rfl, by omega⟩)) (Nat.le_of_ble_eq_true rfl) (Nat.le_of_ble_eq_true rfl) dX12_isPart_15
    · have fc_2 : (v).toInt ≤ (3 : Int) := i_nlt c_2
      refine lv_iconst (v := (1 : Int32)) hx hb dX12_isPart_10 (by decide) ?_
      refine lv_goto (tgt := 15) hx hb dX12_isPart_11 (by decide) ?_
      exact x_iret C X hr hlk (v := (1 : Int32)) (by first | rfl | decide) (()) [] (by decide) rfl (Or.inl (⟨rfl, by omega⟩)) (Nat.le_of_ble_eq_true rfl) (Nat.le_of_ble_eq_true rfl) dX12_isPart_15
set_option maxHeartbeats 4000000 in
set_option maxRecDepth 100000 in
theorem c_isAhead (l : Launch) (D : va_G) (cI cJ cZ cB : ClassId) (cO : ClassId) (v : Int32) :
    CI l D [(cI, .int), (cJ, .long), (cZ, .boolean), (cB, .byte), (cO, .object "LuckLinks$World")] yX12_isAhead cX12_isAhead 1 (some .boolean) ({ frames := 0, cells := 0, slots := 0, locals := 0 } : Room) [.int v] [] (fun (r : Int32) (u : Unit) => (r = (1 : Int32) ∧ (0 ≤ (v).toInt ∧ (v).toInt ≤ 40)) ∨ (r = (0 : Int32) ∧ ((v).toInt < 0 ∨ 40 < (v).toInt))) (fun (_ : Unit) => []) := by
  intro sz
  refine body_of (y := yX12_isAhead) (cc := cX12_isAhead) (maxL := 1) (ret := (some .boolean)) (rm := ({ frames := 0, cells := 0, slots := 0, locals := 0 } : Room)) (wc := []) (tys := [(cI, .int), (cJ, .long), (cZ, .boolean), (cB, .byte), (cO, .object "LuckLinks$World")]) (D := D) (sz := sz) (own := RX12) (av := [.int v]) (Qc := fun A => va_Qi (fun (r : Int32) (u : Unit) => (r = (1 : Int32) ∧ (0 ≤ (v).toInt ∧ (v).toInt ≤ 40)) ∨ (r = (0 : Int32) ∧ ((v).toInt < 0 ∨ 40 < (v).toInt))) (fun u t => Aft D A ((fun (_ : Unit) => []) u) t) A) (by decide) rfl (Nat.le_of_ble_eq_true rfl) (fun p e s m below meth c A ls C hr hlk hin X hl => ?_)
  have hx := C.1
  have hb := C.2.1
  have hown := C.2.2.2.1
  have hts := C.2.2.2.2.1
  have hl : lv_has ls 1 [(0, .int v)] := hl
  show W p l e _ s m _ below meth c s.heap [] 0 0 (MQ below (va_Qi (fun (r : Int32) (u : Unit) => (r = (1 : Int32) ∧ (0 ≤ (v).toInt ∧ (v).toInt ≤ 40)) ∨ (r = (0 : Int32) ∧ ((v).toInt < 0 ∨ 40 < (v).toInt))) (fun u t => Aft D A ((fun (_ : Unit) => []) u) t) A) ([.int v] : List Value).toArray s 0 0 A) (F0 m 0 ls [])
  have X : Wd D A s [] s.heap [] := X
  obtain ⟨H, locs, eH, eL⟩ : ∃ H locs, H = s.heap ∧ locs = ([] : List Loc) := ⟨_, _, rfl, rfl⟩
  rw [← eH, ← eL] at X ⊢
  clear eH eL
  refine lv_iload_n hx hb dX12_isAhead_0 rfl (lv_at hl 0 rfl) ?_
  refine lv_if_lt (tgt := 14) hx hb dX12_isAhead_1 (by decide) (fun c_1 => ?_) (fun c_1 => ?_)
  · have fc_1 : (v).toInt < (0 : Int) := i_lt c_1
    refine lv_iconst (v := (0 : Int32)) hx hb dX12_isAhead_14 (by decide) ?_
    exact x_iret C X hr hlk (v := (0 : Int32)) (by first | rfl | decide) (()) [] (by decide) rfl (Or.inr (⟨rfl, by omega⟩)) (Nat.le_of_ble_eq_true rfl) (Nat.le_of_ble_eq_true rfl) dX12_isAhead_15
  · have fc_1 : (0 : Int) ≤ (v).toInt := i_nlt c_1
    refine lv_iload_n hx hb dX12_isAhead_4 rfl (lv_at hl 0 rfl) ?_
    refine lv_bipush (v := (40 : Int32)) hx hb dX12_isAhead_5 (by decide) ?_
    refine lv_icmp_gt (tgt := 14) hx hb dX12_isAhead_7 (by decide) (fun c_2 => ?_) (fun c_2 => ?_)
    · have fc_2 : (40 : Int) < (v).toInt := i_lt c_2
      refine lv_iconst (v := (0 : Int32)) hx hb dX12_isAhead_14 (by decide) ?_
      exact x_iret C X hr hlk (v := (0 : Int32)) (by first | rfl | decide) (()) [] (by decide) rfl (Or.inr (⟨rfl, by omega⟩)) (Nat.le_of_ble_eq_true rfl) (Nat.le_of_ble_eq_true rfl) dX12_isAhead_15
    · have fc_2 : (v).toInt ≤ (40 : Int) := i_nlt c_2
      refine lv_iconst (v := (1 : Int32)) hx hb dX12_isAhead_10 (by decide) ?_
      refine lv_goto (tgt := 15) hx hb dX12_isAhead_11 (by decide) ?_
      exact x_iret C X hr hlk (v := (1 : Int32)) (by first | rfl | decide) (()) [] (by decide) rfl (Or.inl (⟨rfl, by omega⟩)) (Nat.le_of_ble_eq_true rfl) (Nat.le_of_ble_eq_true rfl) dX12_isAhead_15
set_option maxHeartbeats 4000000 in
set_option maxRecDepth 100000 in
theorem c_partOf (l : Launch) (D : va_G) (cI cJ cZ cB : ClassId) (cO : ClassId) (v : Int32) :
    CI l D [(cI, .int), (cJ, .long), (cZ, .boolean), (cB, .byte), (cO, .object "LuckLinks$World")] yX12_partOf cX12_partOf 1 (some .int) ({ frames := 0, cells := 0, slots := 0, locals := 0 } : Room) [.int v] [] (fun (r : Int32) (u : Unit) => (r = (4 : Int32) ∧ True) ∨ (r = v ∧ True)) (fun (_ : Unit) => []) := by
  intro sz
  refine body_of (y := yX12_partOf) (cc := cX12_partOf) (maxL := 1) (ret := (some .int)) (rm := ({ frames := 0, cells := 0, slots := 0, locals := 0 } : Room)) (wc := []) (tys := [(cI, .int), (cJ, .long), (cZ, .boolean), (cB, .byte), (cO, .object "LuckLinks$World")]) (D := D) (sz := sz) (own := RX12) (av := [.int v]) (Qc := fun A => va_Qi (fun (r : Int32) (u : Unit) => (r = (4 : Int32) ∧ True) ∨ (r = v ∧ True)) (fun u t => Aft D A ((fun (_ : Unit) => []) u) t) A) (by decide) rfl (Nat.le_of_ble_eq_true rfl) (fun p e s m below meth c A ls C hr hlk hin X hl => ?_)
  have hx := C.1
  have hb := C.2.1
  have hown := C.2.2.2.1
  have hts := C.2.2.2.2.1
  have hl : lv_has ls 1 [(0, .int v)] := hl
  show W p l e _ s m _ below meth c s.heap [] 0 0 (MQ below (va_Qi (fun (r : Int32) (u : Unit) => (r = (4 : Int32) ∧ True) ∨ (r = v ∧ True)) (fun u t => Aft D A ((fun (_ : Unit) => []) u) t) A) ([.int v] : List Value).toArray s 0 0 A) (F0 m 0 ls [])
  have X : Wd D A s [] s.heap [] := X
  obtain ⟨H, locs, eH, eL⟩ : ∃ H locs, H = s.heap ∧ locs = ([] : List Loc) := ⟨_, _, rfl, rfl⟩
  rw [← eH, ← eL] at X ⊢
  clear eH eL
  refine lv_iload_n hx hb dX12_partOf_0 rfl (lv_at hl 0 rfl) ?_
  refine lv_if_ge (tgt := 8) hx hb dX12_partOf_1 (by decide) (fun c_1 => ?_) (fun c_1 => ?_)
  · have fc_1 : (0 : Int) ≤ (v).toInt := i_le c_1
    refine lv_iload_n hx hb dX12_partOf_8 rfl (lv_at hl 0 rfl) ?_
    exact x_iret C X hr hlk (v := v) (by first | rfl | decide) (()) [] (by decide) rfl (Or.inr (⟨rfl, trivial⟩)) (Nat.le_of_ble_eq_true rfl) (Nat.le_of_ble_eq_true rfl) dX12_partOf_9
  · have fc_1 : (v).toInt < (0 : Int) := i_nle c_1
    refine lv_iconst (v := (4 : Int32)) hx hb dX12_partOf_4 (by decide) ?_
    refine lv_goto (tgt := 9) hx hb dX12_partOf_5 (by decide) ?_
    exact x_iret C X hr hlk (v := (4 : Int32)) (by first | rfl | decide) (()) [] (by decide) rfl (Or.inl (⟨rfl, trivial⟩)) (Nat.le_of_ble_eq_true rfl) (Nat.le_of_ble_eq_true rfl) dX12_partOf_9
set_option maxHeartbeats 4000000 in
set_option maxRecDepth 100000 in
theorem cm_refuses (l : Launch) (D : va_G) (cI cJ cZ cB : ClassId) (cO : ClassId) (a : Nat → Nat) :
    CI l D [(cI, .int), (cJ, .long), (cZ, .boolean), (cB, .byte), (cO, .object "LuckLinks$World")] yX12_refuses cX12_refuses 2 (some .int) ({ frames := 0, cells := 0, slots := 0, locals := 0 } : Room) [.ref (a 0), .int (0 : Int32)] [((a 0), .inr (12, (mF a))), ((a 13), .inl (cI, 3, .inl (fun _ => (0 : Int32))))] (fun (r : Int32) (u : Unit) => (r = (-1 : Int32) ∧ True)) (fun (_ : Unit) => []) := by
  intro sz
  refine body_of (y := yX12_refuses) (cc := cX12_refuses) (maxL := 2) (ret := (some .int)) (rm := ({ frames := 0, cells := 0, slots := 0, locals := 0 } : Room)) (wc := [((a 0), .inr (12, (mF a))), ((a 13), .inl (cI, 3, .inl (fun _ => (0 : Int32))))]) (tys := [(cI, .int), (cJ, .long), (cZ, .boolean), (cB, .byte), (cO, .object "LuckLinks$World")]) (D := D) (sz := sz) (own := RX12) (av := [.ref (a 0), .int (0 : Int32)]) (Qc := fun A => va_Qi (fun (r : Int32) (u : Unit) => (r = (-1 : Int32) ∧ True)) (fun u t => Aft D A ((fun (_ : Unit) => []) u) t) A) (by decide) rfl (Nat.le_of_ble_eq_true rfl) (fun p e s m below meth c A ls C hr hlk hin X hl => ?_)
  have hx := C.1
  have hb := C.2.1
  have hown := C.2.2.2.1
  have hts := C.2.2.2.2.1
  have hl : lv_has ls 2 [(0, .ref (a 0)), (1, .int (0 : Int32))] := hl
  show W p l e _ s m _ below meth c s.heap [] 0 0 (MQ below (va_Qi (fun (r : Int32) (u : Unit) => (r = (-1 : Int32) ∧ True)) (fun u t => Aft D A ((fun (_ : Unit) => []) u) t) A) ([.ref (a 0), .int (0 : Int32)] : List Value).toArray s 0 0 A) (F0 m 0 ls [])
  have X : Wd D A s [((a 0), .inr (12, (mF a))), ((a 13), .inl (cI, 3, .inl (fun _ => (0 : Int32))))] s.heap [] := X
  obtain ⟨H, locs, eH, eL⟩ : ∃ H locs, H = s.heap ∧ locs = ([] : List Loc) := ⟨_, _, rfl, rfl⟩
  rw [← eH, ← eL] at X ⊢
  clear eH eL
  refine lv_aload_n hx hb dX12_refuses_0 rfl (lv_at hl 0 rfl) ?_
  refine x_get (own := RX12) (T := TX12) C X 0 rfl rfl 13 (by decide) k_10_5 rfl rfl (v := .ref (a 13)) rfl dX12_refuses_1 ?_
  refine lv_iload_n hx hb dX12_refuses_4 rfl (lv_at hl 1 rfl) ?_
  refine lv_dup2_11 hx hb dX12_refuses_5 rfl rfl ?_
  refine x_iald C X 1 0 rfl rfl (j := 0) rfl (vp_in_nI (n := 0) (by omega) (by omega)) (v := (0 : Int32)) (rfl) dX12_refuses_6 ?_
  refine lv_iconst (v := (1 : Int32)) hx hb dX12_refuses_7 (by decide) ?_
  refine lv_iadd hx hb dX12_refuses_8 ?_
  refine x_eqi (show (0 : Int32) + (1 : Int32) = (1 : Int32) from by decide +kernel) ?_
  refine x_iast C X 1 0 rfl rfl (j := 0) rfl (vp_in_nI (n := 0) (by omega) (by omega)) dX12_refuses_9 (fun H locs X => ?_)
  have X : Wd D A s [((a 0), .inr (12, (mF a))), ((a 13), .inl (cI, 3, .inl (upd (fun _ => (0 : Int32)) (0) ((1 : Int32)))))] H locs := X
  refine lv_iconst (v := (-1 : Int32)) hx hb dX12_refuses_10 (by decide) ?_
  exact x_iret C X hr hlk (v := (-1 : Int32)) (by first | rfl | decide) (()) [] (by decide) rfl (⟨rfl, trivial⟩) (Nat.le_of_ble_eq_true rfl) (Nat.le_of_ble_eq_true rfl) dX12_refuses_11
set_option maxHeartbeats 4000000 in
set_option maxRecDepth 100000 in
theorem cm_isNot (l : Launch) (D : va_G) (cI cJ cZ cB : ClassId) (cO : ClassId) (a : Nat → Nat) :
    CI l D [(cI, .int), (cJ, .long), (cZ, .boolean), (cB, .byte), (cO, .object "LuckLinks$World")] yX12_isNot cX12_isNot 1 (some .boolean) ({ frames := 0, cells := 0, slots := 0, locals := 0 } : Room) [.ref (a 0)] [((a 0), .inr (12, (mF a))), ((a 13), .inl (cI, 3, .inl (fun _ => (0 : Int32))))] (fun (r : Int32) (u : Unit) => (r = (0 : Int32) ∧ True)) (fun (_ : Unit) => []) := by
  intro sz
  refine body_of (y := yX12_isNot) (cc := cX12_isNot) (maxL := 1) (ret := (some .boolean)) (rm := ({ frames := 0, cells := 0, slots := 0, locals := 0 } : Room)) (wc := [((a 0), .inr (12, (mF a))), ((a 13), .inl (cI, 3, .inl (fun _ => (0 : Int32))))]) (tys := [(cI, .int), (cJ, .long), (cZ, .boolean), (cB, .byte), (cO, .object "LuckLinks$World")]) (D := D) (sz := sz) (own := RX12) (av := [.ref (a 0)]) (Qc := fun A => va_Qi (fun (r : Int32) (u : Unit) => (r = (0 : Int32) ∧ True)) (fun u t => Aft D A ((fun (_ : Unit) => []) u) t) A) (by decide) rfl (Nat.le_of_ble_eq_true rfl) (fun p e s m below meth c A ls C hr hlk hin X hl => ?_)
  have hx := C.1
  have hb := C.2.1
  have hown := C.2.2.2.1
  have hts := C.2.2.2.2.1
  have hl : lv_has ls 1 [(0, .ref (a 0))] := hl
  show W p l e _ s m _ below meth c s.heap [] 0 0 (MQ below (va_Qi (fun (r : Int32) (u : Unit) => (r = (0 : Int32) ∧ True)) (fun u t => Aft D A ((fun (_ : Unit) => []) u) t) A) ([.ref (a 0)] : List Value).toArray s 0 0 A) (F0 m 0 ls [])
  have X : Wd D A s [((a 0), .inr (12, (mF a))), ((a 13), .inl (cI, 3, .inl (fun _ => (0 : Int32))))] s.heap [] := X
  obtain ⟨H, locs, eH, eL⟩ : ∃ H locs, H = s.heap ∧ locs = ([] : List Loc) := ⟨_, _, rfl, rfl⟩
  rw [← eH, ← eL] at X ⊢
  clear eH eL
  refine lv_aload_n hx hb dX12_isNot_0 rfl (lv_at hl 0 rfl) ?_
  refine x_get (own := RX12) (T := TX12) C X 0 rfl rfl 13 (by decide) k_10_5 rfl rfl (v := .ref (a 13)) rfl dX12_isNot_1 ?_
  refine lv_iconst (v := (0 : Int32)) hx hb dX12_isNot_4 (by decide) ?_
  refine lv_dup2_11 hx hb dX12_isNot_5 rfl rfl ?_
  refine x_iald C X 1 0 rfl rfl (j := 0) rfl (vp_in_nI (n := 0) (by omega) (by omega)) (v := (0 : Int32)) (rfl) dX12_isNot_6 ?_
  refine lv_iconst (v := (1 : Int32)) hx hb dX12_isNot_7 (by decide) ?_
  refine lv_iadd hx hb dX12_isNot_8 ?_
  refine x_eqi (show (0 : Int32) + (1 : Int32) = (1 : Int32) from by decide +kernel) ?_
  refine x_iast C X 1 0 rfl rfl (j := 0) rfl (vp_in_nI (n := 0) (by omega) (by omega)) dX12_isNot_9 (fun H locs X => ?_)
  have X : Wd D A s [((a 0), .inr (12, (mF a))), ((a 13), .inl (cI, 3, .inl (upd (fun _ => (0 : Int32)) (0) ((1 : Int32)))))] H locs := X
  refine lv_iconst (v := (0 : Int32)) hx hb dX12_isNot_10 (by decide) ?_
  exact x_iret C X hr hlk (v := (0 : Int32)) (by first | rfl | decide) (()) [] (by decide) rfl (⟨rfl, trivial⟩) (Nat.le_of_ble_eq_true rfl) (Nat.le_of_ble_eq_true rfl) dX12_isNot_11
set_option maxHeartbeats 4000000 in
set_option maxRecDepth 100000 in
theorem cm_isPlayer (l : Launch) (D : va_G) (cI cJ cZ cB : ClassId) (cO : ClassId) (a : Nat → Nat) (v : Int32) :
    CI l D [(cI, .int), (cJ, .long), (cZ, .boolean), (cB, .byte), (cO, .object "LuckLinks$World")] yX12_isPlayer cX12_isPlayer 2 (some .boolean) ({ frames := 0, cells := 0, slots := 0, locals := 0 } : Room) [.ref (a 0), .int v] [((a 0), .inr (12, (mF a))), ((a 1), .inl (cI, 4, .inl (fun _ => (0 : Int32))))] (fun (r : Int32) (u : Unit) => (r = (0 : Int32) ∧ True)) (fun (_ : Unit) => [((a 0), .inr (12, (mF a))), ((a 1), .inl (cI, 4, .inl (fun _ => (0 : Int32))))]) := by
  intro sz
  refine body_of (y := yX12_isPlayer) (cc := cX12_isPlayer) (maxL := 2) (ret := (some .boolean)) (rm := ({ frames := 0, cells := 0, slots := 0, locals := 0 } : Room)) (wc := [((a 0), .inr (12, (mF a))), ((a 1), .inl (cI, 4, .inl (fun _ => (0 : Int32))))]) (tys := [(cI, .int), (cJ, .long), (cZ, .boolean), (cB, .byte), (cO, .object "LuckLinks$World")]) (D := D) (sz := sz) (own := RX12) (av := [.ref (a 0), .int v]) (Qc := fun A => va_Qi (fun (r : Int32) (u : Unit) => (r = (0 : Int32) ∧ True)) (fun u t => Aft D A ((fun (_ : Unit) => [((a 0), .inr (12, (mF a))), ((a 1), .inl (cI, 4, .inl (fun _ => (0 : Int32))))]) u) t) A) (by decide) rfl (Nat.le_of_ble_eq_true rfl) (fun p e s m below meth c A ls C hr hlk hin X hl => ?_)
  have hx := C.1
  have hb := C.2.1
  have hown := C.2.2.2.1
  have hts := C.2.2.2.2.1
  have hl : lv_has ls 2 [(0, .ref (a 0)), (1, .int v)] := hl
  show W p l e _ s m _ below meth c s.heap [] 0 0 (MQ below (va_Qi (fun (r : Int32) (u : Unit) => (r = (0 : Int32) ∧ True)) (fun u t => Aft D A ((fun (_ : Unit) => [((a 0), .inr (12, (mF a))), ((a 1), .inl (cI, 4, .inl (fun _ => (0 : Int32))))]) u) t) A) ([.ref (a 0), .int v] : List Value).toArray s 0 0 A) (F0 m 0 ls [])
  have X : Wd D A s [((a 0), .inr (12, (mF a))), ((a 1), .inl (cI, 4, .inl (fun _ => (0 : Int32))))] s.heap [] := X
  obtain ⟨H, locs, eH, eL⟩ : ∃ H locs, H = s.heap ∧ locs = ([] : List Loc) := ⟨_, _, rfl, rfl⟩
  rw [← eH, ← eL] at X ⊢
  clear eH eL
  refine lv_iload_n hx hb dX12_isPlayer_0 rfl (lv_at hl 1 rfl) ?_
  refine lv_if_lt (tgt := 18) hx hb dX12_isPlayer_1 (by decide) (fun c_1 => ?_) (fun c_1 => ?_)
  · have fc_1 : (v).toInt < (0 : Int) := i_lt c_1
    refine lv_iconst (v := (0 : Int32)) hx hb dX12_isPlayer_18 (by decide) ?_
    exact x_iret C X hr hlk (v := (0 : Int32)) (by first | rfl | decide) (()) [0, 1] (by decide) rfl (⟨rfl, trivial⟩) (Nat.le_of_ble_eq_true rfl) (Nat.le_of_ble_eq_true rfl) dX12_isPlayer_19
  · have fc_1 : (0 : Int) ≤ (v).toInt := i_nlt c_1
    refine lv_iload_n hx hb dX12_isPlayer_4 rfl (lv_at hl 1 rfl) ?_
    refine lv_aload_n hx hb dX12_isPlayer_5 rfl (lv_at hl 0 rfl) ?_
    refine x_get (own := RX12) (T := TX12) C X 0 rfl rfl 0 (by decide) k_9_16 rfl rfl (v := .ref (a 1)) rfl dX12_isPlayer_6 ?_
    refine lv_iconst (v := (0 : Int32)) hx hb dX12_isPlayer_9 (by decide) ?_
    refine x_iald C X 1 0 rfl rfl (j := 0) rfl (vp_in_nI (n := 0) (by omega) (by omega)) (v := (0 : Int32)) (rfl) dX12_isPlayer_10 ?_
    refine lv_icmp_ge (tgt := 18) hx hb dX12_isPlayer_11 (by decide) (fun c_2 => ?_) (fun c_2 => by exfalso; have h8 : (v).toInt < (0 : Int) := i_nle c_2; omega)
    have fc_2 : (0 : Int) ≤ (v).toInt := i_le c_2
    refine lv_iconst (v := (0 : Int32)) hx hb dX12_isPlayer_18 (by decide) ?_
    exact x_iret C X hr hlk (v := (0 : Int32)) (by first | rfl | decide) (()) [0, 1] (by decide) rfl (⟨rfl, trivial⟩) (Nat.le_of_ble_eq_true rfl) (Nat.le_of_ble_eq_true rfl) dX12_isPlayer_19
set_option maxHeartbeats 4000000 in
set_option maxRecDepth 100000 in
theorem cm_player (l : Launch) (D : va_G) (cI cJ cZ cB : ClassId) (cO : ClassId) (a : Nat → Nat) (p1 : Int32) (p2 : Int32) (p3 : Int32) (p4 : Int32) :
    CI l D [(cI, .int), (cJ, .long), (cZ, .boolean), (cB, .byte), (cO, .object "LuckLinks$World")] yX12_player cX12_player 7 (some .int) ({ frames := 1, cells := 0, slots := 0, locals := 22 } : Room) [.ref (a 0), .int p1, .int p2, .int p3, .int p4] [((a 0), .inr (12, (mF a))), ((a 1), .inl (cI, 4, .inl (fun _ => (0 : Int32)))), ((a 5), .inl (cI, 320, .inl (fun _ => (0 : Int32)))), ((a 8), .inl (cZ, 12800, .inl (fun _ => (0 : Int32)))), ((a 9), .inl (cZ, 3200, .inl (fun _ => (0 : Int32)))), ((a 13), .inl (cI, 3, .inl (fun _ => (0 : Int32))))] (fun (r : Int32) (u : Unit) => (r = (0 : Int32) ∧ (-20 ≤ p1.toInt ∧ p1.toInt ≤ 20 ∧ -20 ≤ p2.toInt ∧ p2.toInt ≤ 20 ∧ -20 ≤ p3.toInt ∧ p3.toInt ≤ 20 ∧ -20 ≤ p4.toInt ∧ p4.toInt ≤ 20)) ∨ (r = (-1 : Int32) ∧ (p1.toInt < -20 ∨ 20 < p1.toInt ∨ p2.toInt < -20 ∨ 20 < p2.toInt ∨ p3.toInt < -20 ∨ 20 < p3.toInt ∨ p4.toInt < -20 ∨ 20 < p4.toInt))) (fun (_ : Unit) => []) := by
  intro sz
  refine body_of (y := yX12_player) (cc := cX12_player) (maxL := 7) (ret := (some .int)) (rm := ({ frames := 1, cells := 0, slots := 0, locals := 22 } : Room)) (wc := [((a 0), .inr (12, (mF a))), ((a 1), .inl (cI, 4, .inl (fun _ => (0 : Int32)))), ((a 5), .inl (cI, 320, .inl (fun _ => (0 : Int32)))), ((a 8), .inl (cZ, 12800, .inl (fun _ => (0 : Int32)))), ((a 9), .inl (cZ, 3200, .inl (fun _ => (0 : Int32)))), ((a 13), .inl (cI, 3, .inl (fun _ => (0 : Int32))))]) (tys := [(cI, .int), (cJ, .long), (cZ, .boolean), (cB, .byte), (cO, .object "LuckLinks$World")]) (D := D) (sz := sz) (own := RX12) (av := [.ref (a 0), .int p1, .int p2, .int p3, .int p4]) (Qc := fun A => va_Qi (fun (r : Int32) (u : Unit) => (r = (0 : Int32) ∧ (-20 ≤ p1.toInt ∧ p1.toInt ≤ 20 ∧ -20 ≤ p2.toInt ∧ p2.toInt ≤ 20 ∧ -20 ≤ p3.toInt ∧ p3.toInt ≤ 20 ∧ -20 ≤ p4.toInt ∧ p4.toInt ≤ 20)) ∨ (r = (-1 : Int32) ∧ (p1.toInt < -20 ∨ 20 < p1.toInt ∨ p2.toInt < -20 ∨ 20 < p2.toInt ∨ p3.toInt < -20 ∨ 20 < p3.toInt ∨ p4.toInt < -20 ∨ 20 < p4.toInt))) (fun u t => Aft D A ((fun (_ : Unit) => []) u) t) A) (by decide) rfl (Nat.le_of_ble_eq_true rfl) (fun p e s m below meth c A ls C hr hlk hin X hl => ?_)
  have hx := C.1
  have hb := C.2.1
  have hown := C.2.2.2.1
  have hts := C.2.2.2.2.1
  have hl : lv_has ls 7 [(0, .ref (a 0)), (1, .int p1), (2, .int p2), (3, .int p3), (4, .int p4)] := hl
  show W p l e _ s m _ below meth c s.heap [] 0 0 (MQ below (va_Qi (fun (r : Int32) (u : Unit) => (r = (0 : Int32) ∧ (-20 ≤ p1.toInt ∧ p1.toInt ≤ 20 ∧ -20 ≤ p2.toInt ∧ p2.toInt ≤ 20 ∧ -20 ≤ p3.toInt ∧ p3.toInt ≤ 20 ∧ -20 ≤ p4.toInt ∧ p4.toInt ≤ 20)) ∨ (r = (-1 : Int32) ∧ (p1.toInt < -20 ∨ 20 < p1.toInt ∨ p2.toInt < -20 ∨ 20 < p2.toInt ∨ p3.toInt < -20 ∨ 20 < p3.toInt ∨ p4.toInt < -20 ∨ 20 < p4.toInt))) (fun u t => Aft D A ((fun (_ : Unit) => []) u) t) A) ([.ref (a 0), .int p1, .int p2, .int p3, .int p4] : List Value).toArray s 0 0 A) (F0 m 0 ls [])
  have X : Wd D A s [((a 0), .inr (12, (mF a))), ((a 1), .inl (cI, 4, .inl (fun _ => (0 : Int32)))), ((a 5), .inl (cI, 320, .inl (fun _ => (0 : Int32)))), ((a 8), .inl (cZ, 12800, .inl (fun _ => (0 : Int32)))), ((a 9), .inl (cZ, 3200, .inl (fun _ => (0 : Int32)))), ((a 13), .inl (cI, 3, .inl (fun _ => (0 : Int32))))] s.heap [] := X
  obtain ⟨H, locs, eH, eL⟩ : ∃ H locs, H = s.heap ∧ locs = ([] : List Loc) := ⟨_, _, rfl, rfl⟩
  rw [← eH, ← eL] at X ⊢
  clear eH eL
  refine lv_iload_n hx hb dX12_player_0 rfl (lv_at hl 1 rfl) ?_
  refine lv_bipush (v := (-20 : Int32)) hx hb dX12_player_1 (by decide) ?_
  refine lv_bipush (v := (20 : Int32)) hx hb dX12_player_3 (by decide) ?_
  refine x_cS (own := RX12) (wr := [((a 0), .inr (12, (mF a))), ((a 1), .inl (cI, 4, .inl (fun _ => (0 : Int32)))), ((a 5), .inl (cI, 320, .inl (fun _ => (0 : Int32)))), ((a 8), .inl (cZ, 12800, .inl (fun _ => (0 : Int32)))), ((a 9), .inl (cZ, 3200, .inl (fun _ => (0 : Int32)))), ((a 13), .inl (cI, 3, .inl (fun _ => (0 : Int32))))]) (As := [.int p1, .int (-20 : Int32), .int (20 : Int32)]) C X hl.1 (c_within l D cI cJ cZ cB cO p1 (-20 : Int32) (20 : Int32)) [] [0, 1, 2, 3, 4, 5] ⟨rfl, rfl, by decide, by decide, by decide⟩ k_12_23 k_13_0 k_1_5 k_13_1 (n := 3) (by decide +kernel) ⟨Nat.le_of_ble_eq_true rfl, Nat.le_of_ble_eq_true rfl⟩ rfl rfl (Nat.le_of_ble_eq_true rfl) dX12_player_5 ⟨Nat.le_of_ble_eq_true rfl, Nat.le_of_ble_eq_true rfl⟩ (fun r_2 u_1 H locs w_3 X => ?_)
  have X : Wd D A s [((a 0), .inr (12, (mF a))), ((a 1), .inl (cI, 4, .inl (fun _ => (0 : Int32)))), ((a 5), .inl (cI, 320, .inl (fun _ => (0 : Int32)))), ((a 8), .inl (cZ, 12800, .inl (fun _ => (0 : Int32)))), ((a 9), .inl (cZ, 3200, .inl (fun _ => (0 : Int32)))), ((a 13), .inl (cI, 3, .inl (fun _ => (0 : Int32))))] H locs := X
  refine W.widen (k := 0) (n := 0) (Nat.le_of_ble_eq_true rfl) (Nat.le_of_ble_eq_true rfl) ?_
  obtain ⟨rfl, fw_3⟩ | ⟨rfl, fw_3⟩ : (r_2 = (1 : Int32) ∧ ((-20 : Int) ≤ (p1).toInt ∧ (p1).toInt ≤ (20 : Int))) ∨ (r_2 = (0 : Int32) ∧ ((p1).toInt < (-20 : Int) ∨ (20 : Int) < (p1).toInt)) := w_3
  · refine lv_if_eq (tgt := 45) hx hb dX12_player_8 (by decide) (fun c0 => absurd c0 (by decide)) (fun _ => ?_)
    refine lv_iload_n hx hb dX12_player_11 rfl (lv_at hl 2 rfl) ?_
    refine lv_bipush (v := (-20 : Int32)) hx hb dX12_player_12 (by decide) ?_
    refine lv_bipush (v := (20 : Int32)) hx hb dX12_player_14 (by decide) ?_
    refine x_cS (own := RX12) (wr := [((a 0), .inr (12, (mF a))), ((a 1), .inl (cI, 4, .inl (fun _ => (0 : Int32)))), ((a 5), .inl (cI, 320, .inl (fun _ => (0 : Int32)))), ((a 8), .inl (cZ, 12800, .inl (fun _ => (0 : Int32)))), ((a 9), .inl (cZ, 3200, .inl (fun _ => (0 : Int32)))), ((a 13), .inl (cI, 3, .inl (fun _ => (0 : Int32))))]) (As := [.int p2, .int (-20 : Int32), .int (20 : Int32)]) C X hl.1 (c_within l D cI cJ cZ cB cO p2 (-20 : Int32) (20 : Int32)) [] [0, 1, 2, 3, 4, 5] ⟨rfl, rfl, by decide, by decide, by decide⟩ k_12_23 k_13_0 k_1_5 k_13_1 (n := 3) (by decide +kernel) ⟨Nat.le_of_ble_eq_true rfl, Nat.le_of_ble_eq_true rfl⟩ rfl rfl (Nat.le_of_ble_eq_true rfl) dX12_player_16 ⟨Nat.le_of_ble_eq_true rfl, Nat.le_of_ble_eq_true rfl⟩ (fun r_5 u_4 H locs w_6 X => ?_)
    have X : Wd D A s [((a 0), .inr (12, (mF a))), ((a 1), .inl (cI, 4, .inl (fun _ => (0 : Int32)))), ((a 5), .inl (cI, 320, .inl (fun _ => (0 : Int32)))), ((a 8), .inl (cZ, 12800, .inl (fun _ => (0 : Int32)))), ((a 9), .inl (cZ, 3200, .inl (fun _ => (0 : Int32)))), ((a 13), .inl (cI, 3, .inl (fun _ => (0 : Int32))))] H locs := X
    refine W.widen (k := 0) (n := 0) (Nat.le_of_ble_eq_true rfl) (Nat.le_of_ble_eq_true rfl) ?_
    obtain ⟨rfl, fw_6⟩ | ⟨rfl, fw_6⟩ : (r_5 = (1 : Int32) ∧ ((-20 : Int) ≤ (p2).toInt ∧ (p2).toInt ≤ (20 : Int))) ∨ (r_5 = (0 : Int32) ∧ ((p2).toInt < (-20 : Int) ∨ (20 : Int) < (p2).toInt)) := w_6
    · refine lv_if_eq (tgt := 45) hx hb dX12_player_19 (by decide) (fun c0 => absurd c0 (by decide)) (fun _ => ?_)
      refine lv_iload_n hx hb dX12_player_22 rfl (lv_at hl 3 rfl) ?_
      refine lv_bipush (v := (-20 : Int32)) hx hb dX12_player_23 (by decide) ?_
      refine lv_bipush (v := (20 : Int32)) hx hb dX12_player_25 (by decide) ?_
      refine x_cS (own := RX12) (wr := [((a 0), .inr (12, (mF a))), ((a 1), .inl (cI, 4, .inl (fun _ => (0 : Int32)))), ((a 5), .inl (cI, 320, .inl (fun _ => (0 : Int32)))), ((a 8), .inl (cZ, 12800, .inl (fun _ => (0 : Int32)))), ((a 9), .inl (cZ, 3200, .inl (fun _ => (0 : Int32)))), ((a 13), .inl (cI, 3, .inl (fun _ => (0 : Int32))))]) (As := [.int p3, .int (-20 : Int32), .int (20 : Int32)]) C X hl.1 (c_within l D cI cJ cZ cB cO p3 (-20 : Int32) (20 : Int32)) [] [0, 1, 2, 3, 4, 5] ⟨rfl, rfl, by decide, by decide, by decide⟩ k_12_23 k_13_0 k_1_5 k_13_1 (n := 3) (by decide +kernel) ⟨Nat.le_of_ble_eq_true rfl, Nat.le_of_ble_eq_true rfl⟩ rfl rfl (Nat.le_of_ble_eq_true rfl) dX12_player_27 ⟨Nat.le_of_ble_eq_true rfl, Nat.le_of_ble_eq_true rfl⟩ (fun r_8 u_7 H locs w_9 X => ?_)
      have X : Wd D A s [((a 0), .inr (12, (mF a))), ((a 1), .inl (cI, 4, .inl (fun _ => (0 : Int32)))), ((a 5), .inl (cI, 320, .inl (fun _ => (0 : Int32)))), ((a 8), .inl (cZ, 12800, .inl (fun _ => (0 : Int32)))), ((a 9), .inl (cZ, 3200, .inl (fun _ => (0 : Int32)))), ((a 13), .inl (cI, 3, .inl (fun _ => (0 : Int32))))] H locs := X
      refine W.widen (k := 0) (n := 0) (Nat.le_of_ble_eq_true rfl) (Nat.le_of_ble_eq_true rfl) ?_
      obtain ⟨rfl, fw_9⟩ | ⟨rfl, fw_9⟩ : (r_8 = (1 : Int32) ∧ ((-20 : Int) ≤ (p3).toInt ∧ (p3).toInt ≤ (20 : Int))) ∨ (r_8 = (0 : Int32) ∧ ((p3).toInt < (-20 : Int) ∨ (20 : Int) < (p3).toInt)) := w_9
      · refine lv_if_eq (tgt := 45) hx hb dX12_player_30 (by decide) (fun c0 => absurd c0 (by decide)) (fun _ => ?_)
        refine lv_iload hx hb dX12_player_33 (lv_at hl 4 rfl) ?_
        refine lv_bipush (v := (-20 : Int32)) hx hb dX12_player_35 (by decide) ?_
        refine lv_bipush (v := (20 : Int32)) hx hb dX12_player_37 (by decide) ?_
        refine x_cS (own := RX12) (wr := [((a 0), .inr (12, (mF a))), ((a 1), .inl (cI, 4, .inl (fun _ => (0 : Int32)))), ((a 5), .inl (cI, 320, .inl (fun _ => (0 : Int32)))), ((a 8), .inl (cZ, 12800, .inl (fun _ => (0 : Int32)))), ((a 9), .inl (cZ, 3200, .inl (fun _ => (0 : Int32)))), ((a 13), .inl (cI, 3, .inl (fun _ => (0 : Int32))))]) (As := [.int p4, .int (-20 : Int32), .int (20 : Int32)]) C X hl.1 (c_within l D cI cJ cZ cB cO p4 (-20 : Int32) (20 : Int32)) [] [0, 1, 2, 3, 4, 5] ⟨rfl, rfl, by decide, by decide, by decide⟩ k_12_23 k_13_0 k_1_5 k_13_1 (n := 3) (by decide +kernel) ⟨Nat.le_of_ble_eq_true rfl, Nat.le_of_ble_eq_true rfl⟩ rfl rfl (Nat.le_of_ble_eq_true rfl) dX12_player_39 ⟨Nat.le_of_ble_eq_true rfl, Nat.le_of_ble_eq_true rfl⟩ (fun r_11 u_10 H locs w_12 X => ?_)
        have X : Wd D A s [((a 0), .inr (12, (mF a))), ((a 1), .inl (cI, 4, .inl (fun _ => (0 : Int32)))), ((a 5), .inl (cI, 320, .inl (fun _ => (0 : Int32)))), ((a 8), .inl (cZ, 12800, .inl (fun _ => (0 : Int32)))), ((a 9), .inl (cZ, 3200, .inl (fun _ => (0 : Int32)))), ((a 13), .inl (cI, 3, .inl (fun _ => (0 : Int32))))] H locs := X
        refine W.widen (k := 0) (n := 0) (Nat.le_of_ble_eq_true rfl) (Nat.le_of_ble_eq_true rfl) ?_
        obtain ⟨rfl, fw_12⟩ | ⟨rfl, fw_12⟩ : (r_11 = (1 : Int32) ∧ ((-20 : Int) ≤ (p4).toInt ∧ (p4).toInt ≤ (20 : Int))) ∨ (r_11 = (0 : Int32) ∧ ((p4).toInt < (-20 : Int) ∨ (20 : Int) < (p4).toInt)) := w_12
        · refine lv_if_ne (tgt := 51) hx hb dX12_player_42 (by decide) (fun _ => ?_) (fun c0 => absurd c0 (by decide))
          refine lv_aload_n hx hb dX12_player_51 rfl (lv_at hl 0 rfl) ?_
          refine x_get (own := RX12) (T := TX12) C X 0 rfl rfl 0 (by decide) k_9_16 rfl rfl (v := .ref (a 1)) rfl dX12_player_52 ?_
          refine lv_iconst (v := (0 : Int32)) hx hb dX12_player_55 (by decide) ?_
          refine x_iald C X 1 0 rfl rfl (j := 0) rfl (vp_in_nI (n := 0) (by omega) (by omega)) (v := (0 : Int32)) (rfl) dX12_player_56 ?_
          refine lv_bipush (v := (20 : Int32)) hx hb dX12_player_57 (by decide) ?_
          refine lv_icmp_ne (tgt := 68) hx hb dX12_player_59 (by decide) (fun _ => ?_) (fun c0 => absurd c0 (by decide))
          refine lv_aload_n hx hb dX12_player_68 rfl (lv_at hl 0 rfl) ?_
          refine x_get (own := RX12) (T := TX12) C X 0 rfl rfl 0 (by decide) k_9_16 rfl rfl (v := .ref (a 1)) rfl dX12_player_69 ?_
          refine lv_iconst (v := (0 : Int32)) hx hb dX12_player_72 (by decide) ?_
          refine x_iald C X 1 0 rfl rfl (j := 0) rfl (vp_in_nI (n := 0) (by omega) (by omega)) (v := (0 : Int32)) (rfl) dX12_player_73 ?_
          refine lv_istore (lv' := [(5, .int (0 : Int32)), (0, .ref (a 0)), (1, .int p1), (2, .int p2), (3, .int p3), (4, .int p4)]) hx hb dX12_player_74 hl (by decide) rfl (fun ls hl => ?_)
          refine lv_iconst (v := (0 : Int32)) hx hb dX12_player_76 (by decide) ?_
          refine lv_istore (lv' := [(6, .int (0 : Int32)), (5, .int (0 : Int32)), (0, .ref (a 0)), (1, .int p1), (2, .int p2), (3, .int p3), (4, .int p4)]) hx hb dX12_player_77 hl (by decide) rfl (fun ls hl => ?_)
          have L79 : ∀ (n : Nat) (i : Nat) (f79_0 : Nat → Int32) (H : Heap) (locs : List Loc) (ls : Array Slot), (h1 : i ≤ 4) → 4 < i + n → Wd D A s [((a 0), .inr (12, (mF a))), ((a 1), .inl (cI, 4, .inl (fun _ => (0 : Int32)))), ((a 5), .inl (cI, 320, .inl (f79_0))), ((a 8), .inl (cZ, 12800, .inl (fun _ => (0 : Int32)))), ((a 9), .inl (cZ, 3200, .inl (fun _ => (0 : Int32)))), ((a 13), .inl (cI, 3, .inl (fun _ => (0 : Int32))))] H locs → lv_has ls 7 [(6, .int (nI (i))), (5, .int (0 : Int32)), (0, .ref (a 0)), (1, .int p1), (2, .int p2), (3, .int p3), (4, .int p4)] → W p l e ({ frames := 1, cells := 0, slots := 0, locals := 22 } : Room) s m ([.ref (a 0), .int p1, .int p2, .int p3, .int p4] : List Value).toArray below meth c H locs 0 0 (MQ below (va_Qi (fun (r : Int32) (u : Unit) => (r = (0 : Int32) ∧ (-20 ≤ p1.toInt ∧ p1.toInt ≤ 20 ∧ -20 ≤ p2.toInt ∧ p2.toInt ≤ 20 ∧ -20 ≤ p3.toInt ∧ p3.toInt ≤ 20 ∧ -20 ≤ p4.toInt ∧ p4.toInt ≤ 20)) ∨ (r = (-1 : Int32) ∧ (p1.toInt < -20 ∨ 20 < p1.toInt ∨ p2.toInt < -20 ∨ 20 < p2.toInt ∨ p3.toInt < -20 ∨ 20 < p3.toInt ∨ p4.toInt < -20 ∨ 20 < p4.toInt))) (fun u t => Aft D A ((fun (_ : Unit) => []) u) t) A) ([.ref (a 0), .int p1, .int p2, .int p3, .int p4] : List Value).toArray s 0 0 A) (F0 m 79 ls []) := by
            intro n
            induction n with
            | zero => intro i f79_0 H locs ls h1 hn; exact absurd hn (by omega)
            | succ n ih =>
              intro i f79_0 H locs ls h1 hn X hl
              have ih79 := ih
              refine lv_iload hx hb dX12_player_79 (lv_at hl 0 rfl) ?_
              refine lv_iconst (v := (4 : Int32)) hx hb dX12_player_81 (by decide) ?_
              refine lv_icmp_ge (tgt := 134) hx hb dX12_player_82 (by decide) (fun c_13 => ?_) (fun c_13 => ?_)
              · have fc_13 : (4 : Int) ≤ ((i : Nat) : Int) := (by have h9 := i_le c_13; simp only [nI_toInt (n := i) (by omega)] at h9; exact h9)
                refine lv_sipush (v := (160 : Int32)) hx hb dX12_player_134 (by decide) ?_
                refine lv_iload hx hb dX12_player_137 (lv_at hl 1 rfl) ?_
                refine lv_imul hx hb dX12_player_139 ?_
                refine x_eqi (show (160 : Int32) * (0 : Int32) = (0 : Int32) from by decide +kernel) ?_
                refine lv_istore (lv' := [(6, .int (0 : Int32)), (5, .int (0 : Int32)), (0, .ref (a 0)), (1, .int p1), (2, .int p2), (3, .int p3), (4, .int p4)]) hx hb dX12_player_140 hl (by decide) rfl (fun ls hl => ?_)
                have L142 : ∀ (n : Nat) (i : Nat) (H : Heap) (locs : List Loc) (ls : Array Slot), (h1 : i ≤ 160) → 160 < i + n → Wd D A s [((a 0), .inr (12, (mF a))), ((a 1), .inl (cI, 4, .inl (fun _ => (0 : Int32)))), ((a 5), .inl (cI, 320, .inl (f79_0))), ((a 8), .inl (cZ, 12800, .inl (fun _ => (0 : Int32)))), ((a 9), .inl (cZ, 3200, .inl (fun _ => (0 : Int32)))), ((a 13), .inl (cI, 3, .inl (fun _ => (0 : Int32))))] H locs → lv_has ls 7 [(6, .int (nI (i))), (5, .int (0 : Int32)), (0, .ref (a 0)), (1, .int p1), (2, .int p2), (3, .int p3), (4, .int p4)] → W p l e ({ frames := 1, cells := 0, slots := 0, locals := 22 } : Room) s m ([.ref (a 0), .int p1, .int p2, .int p3, .int p4] : List Value).toArray below meth c H locs 0 0 (MQ below (va_Qi (fun (r : Int32) (u : Unit) => (r = (0 : Int32) ∧ (-20 ≤ p1.toInt ∧ p1.toInt ≤ 20 ∧ -20 ≤ p2.toInt ∧ p2.toInt ≤ 20 ∧ -20 ≤ p3.toInt ∧ p3.toInt ≤ 20 ∧ -20 ≤ p4.toInt ∧ p4.toInt ≤ 20)) ∨ (r = (-1 : Int32) ∧ (p1.toInt < -20 ∨ 20 < p1.toInt ∨ p2.toInt < -20 ∨ 20 < p2.toInt ∨ p3.toInt < -20 ∨ 20 < p3.toInt ∨ p4.toInt < -20 ∨ 20 < p4.toInt))) (fun u t => Aft D A ((fun (_ : Unit) => []) u) t) A) ([.ref (a 0), .int p1, .int p2, .int p3, .int p4] : List Value).toArray s 0 0 A) (F0 m 142 ls []) := by
                  intro n
                  induction n with
                  | zero => intro i H locs ls h1 hn; exact absurd hn (by omega)
                  | succ n ih =>
                    intro i H locs ls h1 hn X hl
                    have ih142 := ih
                    refine lv_iload hx hb dX12_player_142 (lv_at hl 0 rfl) ?_
                    refine lv_sipush (v := (160 : Int32)) hx hb dX12_player_144 (by decide) ?_
                    refine lv_iload hx hb dX12_player_147 (lv_at hl 1 rfl) ?_
                    refine lv_imul hx hb dX12_player_149 ?_
                    refine x_eqi (show (160 : Int32) * (0 : Int32) = (0 : Int32) from by decide +kernel) ?_
                    refine lv_sipush (v := (160 : Int32)) hx hb dX12_player_150 (by decide) ?_
                    refine lv_iadd hx hb dX12_player_153 ?_
                    refine x_eqi (show (0 : Int32) + (160 : Int32) = (160 : Int32) from by decide +kernel) ?_
                    refine lv_icmp_ge (tgt := 171) hx hb dX12_player_154 (by decide) (fun c_14 => ?_) (fun c_14 => ?_)
                    · have fc_14 : (160 : Int) ≤ ((i : Nat) : Int) := (by have h9 := i_le c_14; simp only [nI_toInt (n := i) (by omega)] at h9; exact h9)
                      refine lv_iconst (v := (0 : Int32)) hx hb dX12_player_171 (by decide) ?_
                      refine lv_istore (lv' := [(6, .int (0 : Int32)), (5, .int (0 : Int32)), (0, .ref (a 0)), (1, .int p1), (2, .int p2), (3, .int p3), (4, .int p4)]) hx hb dX12_player_172 hl (by decide) rfl (fun ls hl => ?_)
                      have L174 : ∀ (n : Nat) (i : Nat) (H : Heap) (locs : List Loc) (ls : Array Slot), (h1 : i ≤ 40) → 40 < i + n → Wd D A s [((a 0), .inr (12, (mF a))), ((a 1), .inl (cI, 4, .inl (fun _ => (0 : Int32)))), ((a 5), .inl (cI, 320, .inl (f79_0))), ((a 8), .inl (cZ, 12800, .inl (fun _ => (0 : Int32)))), ((a 9), .inl (cZ, 3200, .inl (fun _ => (0 : Int32)))), ((a 13), .inl (cI, 3, .inl (fun _ => (0 : Int32))))] H locs → lv_has ls 7 [(6, .int (nI (i))), (5, .int (0 : Int32)), (0, .ref (a 0)), (1, .int p1), (2, .int p2), (3, .int p3), (4, .int p4)] → W p l e ({ frames := 1, cells := 0, slots := 0, locals := 22 } : Room) s m ([.ref (a 0), .int p1, .int p2, .int p3, .int p4] : List Value).toArray below meth c H locs 0 0 (MQ below (va_Qi (fun (r : Int32) (u : Unit) => (r = (0 : Int32) ∧ (-20 ≤ p1.toInt ∧ p1.toInt ≤ 20 ∧ -20 ≤ p2.toInt ∧ p2.toInt ≤ 20 ∧ -20 ≤ p3.toInt ∧ p3.toInt ≤ 20 ∧ -20 ≤ p4.toInt ∧ p4.toInt ≤ 20)) ∨ (r = (-1 : Int32) ∧ (p1.toInt < -20 ∨ 20 < p1.toInt ∨ p2.toInt < -20 ∨ 20 < p2.toInt ∨ p3.toInt < -20 ∨ 20 < p3.toInt ∨ p4.toInt < -20 ∨ 20 < p4.toInt))) (fun u t => Aft D A ((fun (_ : Unit) => []) u) t) A) ([.ref (a 0), .int p1, .int p2, .int p3, .int p4] : List Value).toArray s 0 0 A) (F0 m 174 ls []) := by
                        intro n
                        induction n with
                        | zero => intro i H locs ls h1 hn; exact absurd hn (by omega)
                        | succ n ih =>
                          intro i H locs ls h1 hn X hl
                          have ih174 := ih
                          refine lv_iload hx hb dX12_player_174 (lv_at hl 0 rfl) ?_
                          refine lv_bipush (v := (40 : Int32)) hx hb dX12_player_176 (by decide) ?_
                          refine lv_icmp_ge (tgt := 201) hx hb dX12_player_178 (by decide) (fun c_15 => ?_) (fun c_15 => ?_)
                          · have fc_15 : (40 : Int) ≤ ((i : Nat) : Int) := (by have h9 := i_le c_15; simp only [nI_toInt (n := i) (by omega)] at h9; exact h9)
                            refine lv_aload_n hx hb dX12_player_201 rfl (lv_at hl 2 rfl) ?_
                            refine x_get (own := RX12) (T := TX12) C X 0 rfl rfl 0 (by decide) k_9_16 rfl rfl (v := .ref (a 1)) rfl dX12_player_202 ?_
                            refine lv_iconst (v := (0 : Int32)) hx hb dX12_player_205 (by decide) ?_
                            refine lv_dup2_11 hx hb dX12_player_206 rfl rfl ?_
                            refine x_iald C X 1 0 rfl rfl (j := 0) rfl (vp_in_nI (n := 0) (by omega) (by omega)) (v := (0 : Int32)) (rfl) dX12_player_207 ?_
                            refine lv_iconst (v := (1 : Int32)) hx hb dX12_player_208 (by decide) ?_
                            refine lv_iadd hx hb dX12_player_209 ?_
                            refine x_eqi (show (0 : Int32) + (1 : Int32) = (1 : Int32) from by decide +kernel) ?_
                            refine x_iast C X 1 0 rfl rfl (j := 0) rfl (vp_in_nI (n := 0) (by omega) (by omega)) dX12_player_210 (fun H locs X => ?_)
                            have X : Wd D A s [((a 0), .inr (12, (mF a))), ((a 1), .inl (cI, 4, .inl (upd (fun _ => (0 : Int32)) (0) ((1 : Int32))))), ((a 5), .inl (cI, 320, .inl (f79_0))), ((a 8), .inl (cZ, 12800, .inl (fun _ => (0 : Int32)))), ((a 9), .inl (cZ, 3200, .inl (fun _ => (0 : Int32)))), ((a 13), .inl (cI, 3, .inl (fun _ => (0 : Int32))))] H locs := X
                            refine lv_iload hx hb dX12_player_211 (lv_at hl 1 rfl) ?_
                            exact x_iret C X hr hlk (v := (0 : Int32)) (by first | rfl | decide) (()) [] (by decide) rfl (Or.inl (⟨rfl, by omega⟩)) (Nat.le_of_ble_eq_true rfl) (Nat.le_of_ble_eq_true rfl) dX12_player_213
                          · have fc_15 : ((i : Nat) : Int) < (40 : Int) := (by have h9 := i_nle c_15; simp only [nI_toInt (n := i) (by omega)] at h9; exact h9)
                            refine lv_aload_n hx hb dX12_player_181 rfl (lv_at hl 2 rfl) ?_
                            refine x_get (own := RX12) (T := TX12) C X 0 rfl rfl 8 (by decide) k_10_0 rfl rfl (v := .ref (a 9)) rfl dX12_player_182 ?_
                            refine lv_bipush (v := (40 : Int32)) hx hb dX12_player_185 (by decide) ?_
                            refine lv_iload hx hb dX12_player_187 (lv_at hl 1 rfl) ?_
                            refine lv_imul hx hb dX12_player_189 ?_
                            refine x_eqi (show (40 : Int32) * (0 : Int32) = (0 : Int32) from by decide +kernel) ?_
                            refine lv_iload hx hb dX12_player_190 (lv_at hl 0 rfl) ?_
                            refine lv_iadd hx hb dX12_player_192 ?_
                            refine x_eqi (show (0 : Int32) + (nI (i)) = (nI (0 + i)) from nI_add 0 i) ?_
                            refine lv_iconst (v := (0 : Int32)) hx hb dX12_player_193 (by decide) ?_
                            refine x_zast C X 4 2 rfl rfl (j := 0 + i) (nI_clamp (by omega)) (vp_in_nI (by omega) (by omega)) dX12_player_194 (fun H locs X => ?_)
                            have X := x_cng X 4 rfl (arr_eq _ _ (g := fun _ => (0 : Int32)) (fun j h => by first | rfl | (unfold upd; split <;> rfl)))
                            have X : Wd D A s [((a 0), .inr (12, (mF a))), ((a 1), .inl (cI, 4, .inl (fun _ => (0 : Int32)))), ((a 5), .inl (cI, 320, .inl (f79_0))), ((a 8), .inl (cZ, 12800, .inl (fun _ => (0 : Int32)))), ((a 9), .inl (cZ, 3200, .inl (fun _ => (0 : Int32)))), ((a 13), .inl (cI, 3, .inl (fun _ => (0 : Int32))))] H locs := X
                            refine lv_iinc (v := (nI (i + 1))) (lv' := [(6, .int (nI (i + 1))), (5, .int (0 : Int32)), (0, .ref (a 0)), (1, .int p1), (2, .int p2), (3, .int p3), (4, .int p4)]) hx hb dX12_player_195 hl (k := 0) rfl (nI_add _ 1) (by decide) rfl (fun ls hl => ?_)
                            refine lv_goto (tgt := 174) hx hb dX12_player_198 (by decide) ?_
                            exact ih174  (i + 1) H locs ls (by omega) (by omega) (x_sub X [0, 1, 2, 3, 4, 5] (by decide) rfl) (lv_sub hl [0, 1, 2, 3, 4, 5, 6] rfl)
                      exact L174 (40 + 1) (0) H locs ls (by omega) (by omega) (x_sub X [0, 1, 2, 3, 4, 5] (by decide) rfl) (lv_sub hl [0, 1, 2, 3, 4, 5, 6] rfl)
                    · have fc_14 : ((i : Nat) : Int) < (160 : Int) := (by have h9 := i_nle c_14; simp only [nI_toInt (n := i) (by omega)] at h9; exact h9)
                      refine lv_aload_n hx hb dX12_player_157 rfl (lv_at hl 2 rfl) ?_
                      refine x_get (own := RX12) (T := TX12) C X 0 rfl rfl 7 (by decide) k_9_23 rfl rfl (v := .ref (a 8)) rfl dX12_player_158 ?_
                      refine lv_iload hx hb dX12_player_161 (lv_at hl 0 rfl) ?_
                      refine lv_iconst (v := (0 : Int32)) hx hb dX12_player_163 (by decide) ?_
                      refine x_zast C X 3 2 rfl rfl (j := i) (nI_clamp (by omega)) (vp_in_nI (by omega) (by omega)) dX12_player_164 (fun H locs X => ?_)
                      have X := x_cng X 3 rfl (arr_eq _ _ (g := fun _ => (0 : Int32)) (fun j h => by first | rfl | (unfold upd; split <;> rfl)))
                      have X : Wd D A s [((a 0), .inr (12, (mF a))), ((a 1), .inl (cI, 4, .inl (fun _ => (0 : Int32)))), ((a 5), .inl (cI, 320, .inl (f79_0))), ((a 8), .inl (cZ, 12800, .inl (fun _ => (0 : Int32)))), ((a 9), .inl (cZ, 3200, .inl (fun _ => (0 : Int32)))), ((a 13), .inl (cI, 3, .inl (fun _ => (0 : Int32))))] H locs := X
                      refine lv_iinc (v := (nI (i + 1))) (lv' := [(6, .int (nI (i + 1))), (5, .int (0 : Int32)), (0, .ref (a 0)), (1, .int p1), (2, .int p2), (3, .int p3), (4, .int p4)]) hx hb dX12_player_165 hl (k := 0) rfl (nI_add _ 1) (by decide) rfl (fun ls hl => ?_)
                      refine lv_goto (tgt := 142) hx hb dX12_player_168 (by decide) ?_
                      exact ih142  (i + 1) H locs ls (by omega) (by omega) (x_sub X [0, 1, 2, 3, 4, 5] (by decide) rfl) (lv_sub hl [0, 1, 2, 3, 4, 5, 6] rfl)
                exact L142 (160 + 1) (0) H locs ls (by omega) (by omega) (x_sub X [0, 1, 2, 3, 4, 5] (by decide) rfl) (lv_sub hl [0, 1, 2, 3, 4, 5, 6] rfl)
              · have fc_13 : ((i : Nat) : Int) < (4 : Int) := (by have h9 := i_nle c_13; simp only [nI_toInt (n := i) (by omega)] at h9; exact h9)
                refine lv_aload_n hx hb dX12_player_85 rfl (lv_at hl 2 rfl) ?_
                refine x_get (own := RX12) (T := TX12) C X 0 rfl rfl 4 (by decide) k_9_20 rfl rfl (v := .ref (a 5)) rfl dX12_player_86 ?_
                refine lv_iconst (v := (4 : Int32)) hx hb dX12_player_89 (by decide) ?_
                refine lv_iload hx hb dX12_player_90 (lv_at hl 1 rfl) ?_
                refine lv_imul hx hb dX12_player_92 ?_
                refine x_eqi (show (4 : Int32) * (0 : Int32) = (0 : Int32) from by decide +kernel) ?_
                refine lv_iload hx hb dX12_player_93 (lv_at hl 0 rfl) ?_
                refine lv_iadd hx hb dX12_player_95 ?_
                refine x_eqi (show (0 : Int32) + (nI (i)) = (nI (0 + i)) from nI_add 0 i) ?_
                refine lv_iload hx hb dX12_player_96 (lv_at hl 0 rfl) ?_
                refine lv_if_ne (tgt := 105) hx hb dX12_player_98 (by decide) (fun c_16 => ?_) (fun c_16 => ?_)
                · have fc_16 : ((i : Nat) : Int) ≠ (0 : Int) := (by have h9 := i_ne c_16; simp only [nI_toInt (n := i) (by omega)] at h9; exact h9)
                  refine lv_iload hx hb dX12_player_105 (lv_at hl 0 rfl) ?_
                  refine lv_iconst (v := (1 : Int32)) hx hb dX12_player_107 (by decide) ?_
                  refine lv_icmp_ne (tgt := 115) hx hb dX12_player_108 (by decide) (fun c_17 => ?_) (fun c_17 => ?_)
                  · have fc_17 : ((i : Nat) : Int) ≠ (1 : Int) := (by have h9 := i_ne c_17; simp only [nI_toInt (n := i) (by omega)] at h9; exact h9)
                    refine lv_iload hx hb dX12_player_115 (lv_at hl 0 rfl) ?_
                    refine lv_iconst (v := (2 : Int32)) hx hb dX12_player_117 (by decide) ?_
                    refine lv_icmp_ne (tgt := 125) hx hb dX12_player_118 (by decide) (fun c_18 => ?_) (fun c_18 => ?_)
                    · have fc_18 : ((i : Nat) : Int) ≠ (2 : Int) := (by have h9 := i_ne c_18; simp only [nI_toInt (n := i) (by omega)] at h9; exact h9)
                      refine lv_iload hx hb dX12_player_125 (lv_at hl 6 rfl) ?_
                      refine x_iast C X 2 0 rfl rfl (j := 0 + i) (nI_clamp (by omega)) (vp_in_nI (by omega) (by omega)) dX12_player_127 (fun H locs X => ?_)
                      have X : Wd D A s [((a 0), .inr (12, (mF a))), ((a 1), .inl (cI, 4, .inl (fun _ => (0 : Int32)))), ((a 5), .inl (cI, 320, .inl (upd (f79_0) (0 + i) (p4)))), ((a 8), .inl (cZ, 12800, .inl (fun _ => (0 : Int32)))), ((a 9), .inl (cZ, 3200, .inl (fun _ => (0 : Int32)))), ((a 13), .inl (cI, 3, .inl (fun _ => (0 : Int32))))] H locs := X
                      refine lv_iinc (v := (nI (i + 1))) (lv' := [(6, .int (nI (i + 1))), (5, .int (0 : Int32)), (0, .ref (a 0)), (1, .int p1), (2, .int p2), (3, .int p3), (4, .int p4)]) hx hb dX12_player_128 hl (k := 0) rfl (nI_add _ 1) (by decide) rfl (fun ls hl => ?_)
                      refine lv_goto (tgt := 79) hx hb dX12_player_131 (by decide) ?_
                      exact ih79  (i + 1) (upd (f79_0) (0 + i) (p4)) H locs ls (by omega) (by omega) (x_sub X [0, 1, 2, 3, 4, 5] (by decide) rfl) (lv_sub hl [0, 1, 2, 3, 4, 5, 6] rfl)
                    · have fc_18 : ((i : Nat) : Int) = (2 : Int) := (by have h9 := i_eq c_18; simp only [nI_toInt (n := i) (by omega)] at h9; exact h9)
                      refine lv_iload_n hx hb dX12_player_121 rfl (lv_at hl 5 rfl) ?_
                      refine lv_goto (tgt := 127) hx hb dX12_player_122 (by decide) ?_
                      refine x_iast C X 2 0 rfl rfl (j := 0 + i) (nI_clamp (by omega)) (vp_in_nI (by omega) (by omega)) dX12_player_127 (fun H locs X => ?_)
                      have X : Wd D A s [((a 0), .inr (12, (mF a))), ((a 1), .inl (cI, 4, .inl (fun _ => (0 : Int32)))), ((a 5), .inl (cI, 320, .inl (upd (f79_0) (0 + i) (p3)))), ((a 8), .inl (cZ, 12800, .inl (fun _ => (0 : Int32)))), ((a 9), .inl (cZ, 3200, .inl (fun _ => (0 : Int32)))), ((a 13), .inl (cI, 3, .inl (fun _ => (0 : Int32))))] H locs := X
                      refine lv_iinc (v := (nI (i + 1))) (lv' := [(6, .int (nI (i + 1))), (5, .int (0 : Int32)), (0, .ref (a 0)), (1, .int p1), (2, .int p2), (3, .int p3), (4, .int p4)]) hx hb dX12_player_128 hl (k := 0) rfl (nI_add _ 1) (by decide) rfl (fun ls hl => ?_)
                      refine lv_goto (tgt := 79) hx hb dX12_player_131 (by decide) ?_
                      exact ih79  (i + 1) (upd (f79_0) (0 + i) (p3)) H locs ls (by omega) (by omega) (x_sub X [0, 1, 2, 3, 4, 5] (by decide) rfl) (lv_sub hl [0, 1, 2, 3, 4, 5, 6] rfl)
                  · have fc_17 : ((i : Nat) : Int) = (1 : Int) := (by have h9 := i_eq c_17; simp only [nI_toInt (n := i) (by omega)] at h9; exact h9)
                    refine lv_iload_n hx hb dX12_player_111 rfl (lv_at hl 4 rfl) ?_
                    refine lv_goto (tgt := 127) hx hb dX12_player_112 (by decide) ?_
                    refine x_iast C X 2 0 rfl rfl (j := 0 + i) (nI_clamp (by omega)) (vp_in_nI (by omega) (by omega)) dX12_player_127 (fun H locs X => ?_)
                    have X : Wd D A s [((a 0), .inr (12, (mF a))), ((a 1), .inl (cI, 4, .inl (fun _ => (0 : Int32)))), ((a 5), .inl (cI, 320, .inl (upd (f79_0) (0 + i) (p2)))), ((a 8), .inl (cZ, 12800, .inl (fun _ => (0 : Int32)))), ((a 9), .inl (cZ, 3200, .inl (fun _ => (0 : Int32)))), ((a 13), .inl (cI, 3, .inl (fun _ => (0 : Int32))))] H locs := X
                    refine lv_iinc (v := (nI (i + 1))) (lv' := [(6, .int (nI (i + 1))), (5, .int (0 : Int32)), (0, .ref (a 0)), (1, .int p1), (2, .int p2), (3, .int p3), (4, .int p4)]) hx hb dX12_player_128 hl (k := 0) rfl (nI_add _ 1) (by decide) rfl (fun ls hl => ?_)
                    refine lv_goto (tgt := 79) hx hb dX12_player_131 (by decide) ?_
                    exact ih79  (i + 1) (upd (f79_0) (0 + i) (p2)) H locs ls (by omega) (by omega) (x_sub X [0, 1, 2, 3, 4, 5] (by decide) rfl) (lv_sub hl [0, 1, 2, 3, 4, 5, 6] rfl)
                · have fc_16 : ((i : Nat) : Int) = (0 : Int) := (by have h9 := i_eq c_16; simp only [nI_toInt (n := i) (by omega)] at h9; exact h9)
                  refine lv_iload_n hx hb dX12_player_101 rfl (lv_at hl 3 rfl) ?_
                  refine lv_goto (tgt := 127) hx hb dX12_player_102 (by decide) ?_
                  refine x_iast C X 2 0 rfl rfl (j := 0 + i) (nI_clamp (by omega)) (vp_in_nI (by omega) (by omega)) dX12_player_127 (fun H locs X => ?_)
                  have X : Wd D A s [((a 0), .inr (12, (mF a))), ((a 1), .inl (cI, 4, .inl (fun _ => (0 : Int32)))), ((a 5), .inl (cI, 320, .inl (upd (f79_0) (0 + i) (p1)))), ((a 8), .inl (cZ, 12800, .inl (fun _ => (0 : Int32)))), ((a 9), .inl (cZ, 3200, .inl (fun _ => (0 : Int32)))), ((a 13), .inl (cI, 3, .inl (fun _ => (0 : Int32))))] H locs := X
                  refine lv_iinc (v := (nI (i + 1))) (lv' := [(6, .int (nI (i + 1))), (5, .int (0 : Int32)), (0, .ref (a 0)), (1, .int p1), (2, .int p2), (3, .int p3), (4, .int p4)]) hx hb dX12_player_128 hl (k := 0) rfl (nI_add _ 1) (by decide) rfl (fun ls hl => ?_)
                  refine lv_goto (tgt := 79) hx hb dX12_player_131 (by decide) ?_
                  exact ih79  (i + 1) (upd (f79_0) (0 + i) (p1)) H locs ls (by omega) (by omega) (x_sub X [0, 1, 2, 3, 4, 5] (by decide) rfl) (lv_sub hl [0, 1, 2, 3, 4, 5, 6] rfl)
          exact L79 (4 + 1) (0) (fun _ => (0 : Int32)) H locs ls (by omega) (by omega) (x_sub X [0, 1, 2, 3, 4, 5] (by decide) rfl) (lv_sub hl [0, 1, 2, 3, 4, 5, 6] rfl)
        · refine lv_if_ne (tgt := 51) hx hb dX12_player_42 (by decide) (fun c0 => absurd (by decide) c0) (fun _ => ?_)
          refine lv_aload_n hx hb dX12_player_45 rfl (lv_at hl 0 rfl) ?_
          refine lv_iconst (v := (0 : Int32)) hx hb dX12_player_46 (by decide) ?_
          refine x_cV (own := RX12) (wr := [((a 1), .inl (cI, 4, .inl (fun _ => (0 : Int32)))), ((a 5), .inl (cI, 320, .inl (fun _ => (0 : Int32)))), ((a 8), .inl (cZ, 12800, .inl (fun _ => (0 : Int32)))), ((a 9), .inl (cZ, 3200, .inl (fun _ => (0 : Int32))))]) (As := [.int (0 : Int32)]) C X hl.1 (cm_refuses l D cI cJ cZ cB cO a) [0, 5] [1, 2, 3, 4] ⟨rfl, rfl, by decide, by decide, by decide⟩ (qb := 0) rfl rfl k_13_2 k_13_3 k_13_4 k_1_5 k_13_5 (n := 1) (by decide +kernel) ⟨Nat.le_of_ble_eq_true rfl, Nat.le_of_ble_eq_true rfl⟩ rfl rfl (Nat.le_of_ble_eq_true rfl) dX12_player_47 ⟨Nat.le_of_ble_eq_true rfl, Nat.le_of_ble_eq_true rfl⟩ (fun r_20 u_19 H locs w_21 X => ?_)
          have X : Wd D A s [((a 1), .inl (cI, 4, .inl (fun _ => (0 : Int32)))), ((a 5), .inl (cI, 320, .inl (fun _ => (0 : Int32)))), ((a 8), .inl (cZ, 12800, .inl (fun _ => (0 : Int32)))), ((a 9), .inl (cZ, 3200, .inl (fun _ => (0 : Int32))))] H locs := X
          refine W.widen (k := 0) (n := 0) (Nat.le_of_ble_eq_true rfl) (Nat.le_of_ble_eq_true rfl) ?_
          obtain ⟨rfl, fw_21⟩ : r_20 = (-1 : Int32) ∧ True := w_21
          exact x_iret C X hr hlk (v := (-1 : Int32)) (by first | rfl | decide) (()) [] (by decide) rfl (Or.inr (⟨rfl, by omega⟩)) (Nat.le_of_ble_eq_true rfl) (Nat.le_of_ble_eq_true rfl) dX12_player_50
      · refine lv_if_eq (tgt := 45) hx hb dX12_player_30 (by decide) (fun _ => ?_) (fun c0 => absurd (by decide) c0)
        refine lv_aload_n hx hb dX12_player_45 rfl (lv_at hl 0 rfl) ?_
        refine lv_iconst (v := (0 : Int32)) hx hb dX12_player_46 (by decide) ?_
        refine x_cV (own := RX12) (wr := [((a 1), .inl (cI, 4, .inl (fun _ => (0 : Int32)))), ((a 5), .inl (cI, 320, .inl (fun _ => (0 : Int32)))), ((a 8), .inl (cZ, 12800, .inl (fun _ => (0 : Int32)))), ((a 9), .inl (cZ, 3200, .inl (fun _ => (0 : Int32))))]) (As := [.int (0 : Int32)]) C X hl.1 (cm_refuses l D cI cJ cZ cB cO a) [0, 5] [1, 2, 3, 4] ⟨rfl, rfl, by decide, by decide, by decide⟩ (qb := 0) rfl rfl k_13_2 k_13_3 k_13_4 k_1_5 k_13_5 (n := 1) (by decide +kernel) ⟨Nat.le_of_ble_eq_true rfl, Nat.le_of_ble_eq_true rfl⟩ rfl rfl (Nat.le_of_ble_eq_true rfl) dX12_player_47 ⟨Nat.le_of_ble_eq_true rfl, Nat.le_of_ble_eq_true rfl⟩ (fun r_23 u_22 H locs w_24 X => ?_)
        have X : Wd D A s [((a 1), .inl (cI, 4, .inl (fun _ => (0 : Int32)))), ((a 5), .inl (cI, 320, .inl (fun _ => (0 : Int32)))), ((a 8), .inl (cZ, 12800, .inl (fun _ => (0 : Int32)))), ((a 9), .inl (cZ, 3200, .inl (fun _ => (0 : Int32))))] H locs := X
        refine W.widen (k := 0) (n := 0) (Nat.le_of_ble_eq_true rfl) (Nat.le_of_ble_eq_true rfl) ?_
        obtain ⟨rfl, fw_24⟩ : r_23 = (-1 : Int32) ∧ True := w_24
        exact x_iret C X hr hlk (v := (-1 : Int32)) (by first | rfl | decide) (()) [] (by decide) rfl (Or.inr (⟨rfl, by omega⟩)) (Nat.le_of_ble_eq_true rfl) (Nat.le_of_ble_eq_true rfl) dX12_player_50
    · refine lv_if_eq (tgt := 45) hx hb dX12_player_19 (by decide) (fun _ => ?_) (fun c0 => absurd (by decide) c0)
      refine lv_aload_n hx hb dX12_player_45 rfl (lv_at hl 0 rfl) ?_
      refine lv_iconst (v := (0 : Int32)) hx hb dX12_player_46 (by decide) ?_
      refine x_cV (own := RX12) (wr := [((a 1), .inl (cI, 4, .inl (fun _ => (0 : Int32)))), ((a 5), .inl (cI, 320, .inl (fun _ => (0 : Int32)))), ((a 8), .inl (cZ, 12800, .inl (fun _ => (0 : Int32)))), ((a 9), .inl (cZ, 3200, .inl (fun _ => (0 : Int32))))]) (As := [.int (0 : Int32)]) C X hl.1 (cm_refuses l D cI cJ cZ cB cO a) [0, 5] [1, 2, 3, 4] ⟨rfl, rfl, by decide, by decide, by decide⟩ (qb := 0) rfl rfl k_13_2 k_13_3 k_13_4 k_1_5 k_13_5 (n := 1) (by decide +kernel) ⟨Nat.le_of_ble_eq_true rfl, Nat.le_of_ble_eq_true rfl⟩ rfl rfl (Nat.le_of_ble_eq_true rfl) dX12_player_47 ⟨Nat.le_of_ble_eq_true rfl, Nat.le_of_ble_eq_true rfl⟩ (fun r_26 u_25 H locs w_27 X => ?_)
      have X : Wd D A s [((a 1), .inl (cI, 4, .inl (fun _ => (0 : Int32)))), ((a 5), .inl (cI, 320, .inl (fun _ => (0 : Int32)))), ((a 8), .inl (cZ, 12800, .inl (fun _ => (0 : Int32)))), ((a 9), .inl (cZ, 3200, .inl (fun _ => (0 : Int32))))] H locs := X
      refine W.widen (k := 0) (n := 0) (Nat.le_of_ble_eq_true rfl) (Nat.le_of_ble_eq_true rfl) ?_
      obtain ⟨rfl, fw_27⟩ : r_26 = (-1 : Int32) ∧ True := w_27
      exact x_iret C X hr hlk (v := (-1 : Int32)) (by first | rfl | decide) (()) [] (by decide) rfl (Or.inr (⟨rfl, by omega⟩)) (Nat.le_of_ble_eq_true rfl) (Nat.le_of_ble_eq_true rfl) dX12_player_50
  · refine lv_if_eq (tgt := 45) hx hb dX12_player_8 (by decide) (fun _ => ?_) (fun c0 => absurd (by decide) c0)
    refine lv_aload_n hx hb dX12_player_45 rfl (lv_at hl 0 rfl) ?_
    refine lv_iconst (v := (0 : Int32)) hx hb dX12_player_46 (by decide) ?_
    refine x_cV (own := RX12) (wr := [((a 1), .inl (cI, 4, .inl (fun _ => (0 : Int32)))), ((a 5), .inl (cI, 320, .inl (fun _ => (0 : Int32)))), ((a 8), .inl (cZ, 12800, .inl (fun _ => (0 : Int32)))), ((a 9), .inl (cZ, 3200, .inl (fun _ => (0 : Int32))))]) (As := [.int (0 : Int32)]) C X hl.1 (cm_refuses l D cI cJ cZ cB cO a) [0, 5] [1, 2, 3, 4] ⟨rfl, rfl, by decide, by decide, by decide⟩ (qb := 0) rfl rfl k_13_2 k_13_3 k_13_4 k_1_5 k_13_5 (n := 1) (by decide +kernel) ⟨Nat.le_of_ble_eq_true rfl, Nat.le_of_ble_eq_true rfl⟩ rfl rfl (Nat.le_of_ble_eq_true rfl) dX12_player_47 ⟨Nat.le_of_ble_eq_true rfl, Nat.le_of_ble_eq_true rfl⟩ (fun r_29 u_28 H locs w_30 X => ?_)
    have X : Wd D A s [((a 1), .inl (cI, 4, .inl (fun _ => (0 : Int32)))), ((a 5), .inl (cI, 320, .inl (fun _ => (0 : Int32)))), ((a 8), .inl (cZ, 12800, .inl (fun _ => (0 : Int32)))), ((a 9), .inl (cZ, 3200, .inl (fun _ => (0 : Int32))))] H locs := X
    refine W.widen (k := 0) (n := 0) (Nat.le_of_ble_eq_true rfl) (Nat.le_of_ble_eq_true rfl) ?_
    obtain ⟨rfl, fw_30⟩ : r_29 = (-1 : Int32) ∧ True := w_30
    exact x_iret C X hr hlk (v := (-1 : Int32)) (by first | rfl | decide) (()) [] (by decide) rfl (Or.inr (⟨rfl, by omega⟩)) (Nat.le_of_ble_eq_true rfl) (Nat.le_of_ble_eq_true rfl) dX12_player_50
set_option maxHeartbeats 4000000 in
set_option maxRecDepth 100000 in
theorem cm_course (l : Launch) (D : va_G) (cI cJ cZ cB : ClassId) (cO : ClassId) (a : Nat → Nat) (p1 : Int32) (p2 : Int32) (p3 : Int32) (p4 : Int32) :
    CI l D [(cI, .int), (cJ, .long), (cZ, .boolean), (cB, .byte), (cO, .object "LuckLinks$World")] yX12_course cX12_course 7 (some .int) ({ frames := 1, cells := 0, slots := 0, locals := 22 } : Room) [.ref (a 0), .int p1, .int p2, .int p3, .int p4] [((a 0), .inr (12, (mF a))), ((a 2), .inl (cI, 4, .inl (fun _ => (0 : Int32)))), ((a 6), .inl (cI, 96, .inl (fun _ => (0 : Int32)))), ((a 13), .inl (cI, 3, .inl (fun _ => (0 : Int32))))] (fun (r : Int32) (u : Unit) => (r = (0 : Int32) ∧ (0 ≤ p1.toInt ∧ p1.toInt ≤ 60 ∧ 0 ≤ p2.toInt ∧ p2.toInt ≤ 60 ∧ 0 ≤ p3.toInt ∧ p3.toInt ≤ 60 ∧ 0 ≤ p4.toInt ∧ p4.toInt ≤ 60)) ∨ (r = (-1 : Int32) ∧ (p1.toInt < 0 ∨ 60 < p1.toInt ∨ p2.toInt < 0 ∨ 60 < p2.toInt ∨ p3.toInt < 0 ∨ 60 < p3.toInt ∨ p4.toInt < 0 ∨ 60 < p4.toInt))) (fun (_ : Unit) => []) := by
  intro sz
  refine body_of (y := yX12_course) (cc := cX12_course) (maxL := 7) (ret := (some .int)) (rm := ({ frames := 1, cells := 0, slots := 0, locals := 22 } : Room)) (wc := [((a 0), .inr (12, (mF a))), ((a 2), .inl (cI, 4, .inl (fun _ => (0 : Int32)))), ((a 6), .inl (cI, 96, .inl (fun _ => (0 : Int32)))), ((a 13), .inl (cI, 3, .inl (fun _ => (0 : Int32))))]) (tys := [(cI, .int), (cJ, .long), (cZ, .boolean), (cB, .byte), (cO, .object "LuckLinks$World")]) (D := D) (sz := sz) (own := RX12) (av := [.ref (a 0), .int p1, .int p2, .int p3, .int p4]) (Qc := fun A => va_Qi (fun (r : Int32) (u : Unit) => (r = (0 : Int32) ∧ (0 ≤ p1.toInt ∧ p1.toInt ≤ 60 ∧ 0 ≤ p2.toInt ∧ p2.toInt ≤ 60 ∧ 0 ≤ p3.toInt ∧ p3.toInt ≤ 60 ∧ 0 ≤ p4.toInt ∧ p4.toInt ≤ 60)) ∨ (r = (-1 : Int32) ∧ (p1.toInt < 0 ∨ 60 < p1.toInt ∨ p2.toInt < 0 ∨ 60 < p2.toInt ∨ p3.toInt < 0 ∨ 60 < p3.toInt ∨ p4.toInt < 0 ∨ 60 < p4.toInt))) (fun u t => Aft D A ((fun (_ : Unit) => []) u) t) A) (by decide) rfl (Nat.le_of_ble_eq_true rfl) (fun p e s m below meth c A ls C hr hlk hin X hl => ?_)
  have hx := C.1
  have hb := C.2.1
  have hown := C.2.2.2.1
  have hts := C.2.2.2.2.1
  have hl : lv_has ls 7 [(0, .ref (a 0)), (1, .int p1), (2, .int p2), (3, .int p3), (4, .int p4)] := hl
  show W p l e _ s m _ below meth c s.heap [] 0 0 (MQ below (va_Qi (fun (r : Int32) (u : Unit) => (r = (0 : Int32) ∧ (0 ≤ p1.toInt ∧ p1.toInt ≤ 60 ∧ 0 ≤ p2.toInt ∧ p2.toInt ≤ 60 ∧ 0 ≤ p3.toInt ∧ p3.toInt ≤ 60 ∧ 0 ≤ p4.toInt ∧ p4.toInt ≤ 60)) ∨ (r = (-1 : Int32) ∧ (p1.toInt < 0 ∨ 60 < p1.toInt ∨ p2.toInt < 0 ∨ 60 < p2.toInt ∨ p3.toInt < 0 ∨ 60 < p3.toInt ∨ p4.toInt < 0 ∨ 60 < p4.toInt))) (fun u t => Aft D A ((fun (_ : Unit) => []) u) t) A) ([.ref (a 0), .int p1, .int p2, .int p3, .int p4] : List Value).toArray s 0 0 A) (F0 m 0 ls [])
  have X : Wd D A s [((a 0), .inr (12, (mF a))), ((a 2), .inl (cI, 4, .inl (fun _ => (0 : Int32)))), ((a 6), .inl (cI, 96, .inl (fun _ => (0 : Int32)))), ((a 13), .inl (cI, 3, .inl (fun _ => (0 : Int32))))] s.heap [] := X
  obtain ⟨H, locs, eH, eL⟩ : ∃ H locs, H = s.heap ∧ locs = ([] : List Loc) := ⟨_, _, rfl, rfl⟩
  rw [← eH, ← eL] at X ⊢
  clear eH eL
  refine lv_iload_n hx hb dX12_course_0 rfl (lv_at hl 1 rfl) ?_
  refine lv_iconst (v := (0 : Int32)) hx hb dX12_course_1 (by decide) ?_
  refine lv_bipush (v := (60 : Int32)) hx hb dX12_course_2 (by decide) ?_
  refine x_cS (own := RX12) (wr := [((a 0), .inr (12, (mF a))), ((a 2), .inl (cI, 4, .inl (fun _ => (0 : Int32)))), ((a 6), .inl (cI, 96, .inl (fun _ => (0 : Int32)))), ((a 13), .inl (cI, 3, .inl (fun _ => (0 : Int32))))]) (As := [.int p1, .int (0 : Int32), .int (60 : Int32)]) C X hl.1 (c_within l D cI cJ cZ cB cO p1 (0 : Int32) (60 : Int32)) [] [0, 1, 2, 3] ⟨rfl, rfl, by decide, by decide, by decide⟩ k_12_23 k_13_0 k_1_5 k_13_1 (n := 3) (by decide +kernel) ⟨Nat.le_of_ble_eq_true rfl, Nat.le_of_ble_eq_true rfl⟩ rfl rfl (Nat.le_of_ble_eq_true rfl) dX12_course_4 ⟨Nat.le_of_ble_eq_true rfl, Nat.le_of_ble_eq_true rfl⟩ (fun r_2 u_1 H locs w_3 X => ?_)
  have X : Wd D A s [((a 0), .inr (12, (mF a))), ((a 2), .inl (cI, 4, .inl (fun _ => (0 : Int32)))), ((a 6), .inl (cI, 96, .inl (fun _ => (0 : Int32)))), ((a 13), .inl (cI, 3, .inl (fun _ => (0 : Int32))))] H locs := X
  refine W.widen (k := 0) (n := 0) (Nat.le_of_ble_eq_true rfl) (Nat.le_of_ble_eq_true rfl) ?_
  obtain ⟨rfl, fw_3⟩ | ⟨rfl, fw_3⟩ : (r_2 = (1 : Int32) ∧ ((0 : Int) ≤ (p1).toInt ∧ (p1).toInt ≤ (60 : Int))) ∨ (r_2 = (0 : Int32) ∧ ((p1).toInt < (0 : Int) ∨ (60 : Int) < (p1).toInt)) := w_3
  · refine lv_if_eq (tgt := 41) hx hb dX12_course_7 (by decide) (fun c0 => absurd c0 (by decide)) (fun _ => ?_)
    refine lv_iload_n hx hb dX12_course_10 rfl (lv_at hl 2 rfl) ?_
    refine lv_iconst (v := (0 : Int32)) hx hb dX12_course_11 (by decide) ?_
    refine lv_bipush (v := (60 : Int32)) hx hb dX12_course_12 (by decide) ?_
    refine x_cS (own := RX12) (wr := [((a 0), .inr (12, (mF a))), ((a 2), .inl (cI, 4, .inl (fun _ => (0 : Int32)))), ((a 6), .inl (cI, 96, .inl (fun _ => (0 : Int32)))), ((a 13), .inl (cI, 3, .inl (fun _ => (0 : Int32))))]) (As := [.int p2, .int (0 : Int32), .int (60 : Int32)]) C X hl.1 (c_within l D cI cJ cZ cB cO p2 (0 : Int32) (60 : Int32)) [] [0, 1, 2, 3] ⟨rfl, rfl, by decide, by decide, by decide⟩ k_12_23 k_13_0 k_1_5 k_13_1 (n := 3) (by decide +kernel) ⟨Nat.le_of_ble_eq_true rfl, Nat.le_of_ble_eq_true rfl⟩ rfl rfl (Nat.le_of_ble_eq_true rfl) dX12_course_14 ⟨Nat.le_of_ble_eq_true rfl, Nat.le_of_ble_eq_true rfl⟩ (fun r_5 u_4 H locs w_6 X => ?_)
    have X : Wd D A s [((a 0), .inr (12, (mF a))), ((a 2), .inl (cI, 4, .inl (fun _ => (0 : Int32)))), ((a 6), .inl (cI, 96, .inl (fun _ => (0 : Int32)))), ((a 13), .inl (cI, 3, .inl (fun _ => (0 : Int32))))] H locs := X
    refine W.widen (k := 0) (n := 0) (Nat.le_of_ble_eq_true rfl) (Nat.le_of_ble_eq_true rfl) ?_
    obtain ⟨rfl, fw_6⟩ | ⟨rfl, fw_6⟩ : (r_5 = (1 : Int32) ∧ ((0 : Int) ≤ (p2).toInt ∧ (p2).toInt ≤ (60 : Int))) ∨ (r_5 = (0 : Int32) ∧ ((p2).toInt < (0 : Int) ∨ (60 : Int) < (p2).toInt)) := w_6
    · refine lv_if_eq (tgt := 41) hx hb dX12_course_17 (by decide) (fun c0 => absurd c0 (by decide)) (fun _ => ?_)
      refine lv_iload_n hx hb dX12_course_20 rfl (lv_at hl 3 rfl) ?_
      refine lv_iconst (v := (0 : Int32)) hx hb dX12_course_21 (by decide) ?_
      refine lv_bipush (v := (60 : Int32)) hx hb dX12_course_22 (by decide) ?_
      refine x_cS (own := RX12) (wr := [((a 0), .inr (12, (mF a))), ((a 2), .inl (cI, 4, .inl (fun _ => (0 : Int32)))), ((a 6), .inl (cI, 96, .inl (fun _ => (0 : Int32)))), ((a 13), .inl (cI, 3, .inl (fun _ => (0 : Int32))))]) (As := [.int p3, .int (0 : Int32), .int (60 : Int32)]) C X hl.1 (c_within l D cI cJ cZ cB cO p3 (0 : Int32) (60 : Int32)) [] [0, 1, 2, 3] ⟨rfl, rfl, by decide, by decide, by decide⟩ k_12_23 k_13_0 k_1_5 k_13_1 (n := 3) (by decide +kernel) ⟨Nat.le_of_ble_eq_true rfl, Nat.le_of_ble_eq_true rfl⟩ rfl rfl (Nat.le_of_ble_eq_true rfl) dX12_course_24 ⟨Nat.le_of_ble_eq_true rfl, Nat.le_of_ble_eq_true rfl⟩ (fun r_8 u_7 H locs w_9 X => ?_)
      have X : Wd D A s [((a 0), .inr (12, (mF a))), ((a 2), .inl (cI, 4, .inl (fun _ => (0 : Int32)))), ((a 6), .inl (cI, 96, .inl (fun _ => (0 : Int32)))), ((a 13), .inl (cI, 3, .inl (fun _ => (0 : Int32))))] H locs := X
      refine W.widen (k := 0) (n := 0) (Nat.le_of_ble_eq_true rfl) (Nat.le_of_ble_eq_true rfl) ?_
      obtain ⟨rfl, fw_9⟩ | ⟨rfl, fw_9⟩ : (r_8 = (1 : Int32) ∧ ((0 : Int) ≤ (p3).toInt ∧ (p3).toInt ≤ (60 : Int))) ∨ (r_8 = (0 : Int32) ∧ ((p3).toInt < (0 : Int) ∨ (60 : Int) < (p3).toInt)) := w_9
      · refine lv_if_eq (tgt := 41) hx hb dX12_course_27 (by decide) (fun c0 => absurd c0 (by decide)) (fun _ => ?_)
        refine lv_iload hx hb dX12_course_30 (lv_at hl 4 rfl) ?_
        refine lv_iconst (v := (0 : Int32)) hx hb dX12_course_32 (by decide) ?_
        refine lv_bipush (v := (60 : Int32)) hx hb dX12_course_33 (by decide) ?_
        refine x_cS (own := RX12) (wr := [((a 0), .inr (12, (mF a))), ((a 2), .inl (cI, 4, .inl (fun _ => (0 : Int32)))), ((a 6), .inl (cI, 96, .inl (fun _ => (0 : Int32)))), ((a 13), .inl (cI, 3, .inl (fun _ => (0 : Int32))))]) (As := [.int p4, .int (0 : Int32), .int (60 : Int32)]) C X hl.1 (c_within l D cI cJ cZ cB cO p4 (0 : Int32) (60 : Int32)) [] [0, 1, 2, 3] ⟨rfl, rfl, by decide, by decide, by decide⟩ k_12_23 k_13_0 k_1_5 k_13_1 (n := 3) (by decide +kernel) ⟨Nat.le_of_ble_eq_true rfl, Nat.le_of_ble_eq_true rfl⟩ rfl rfl (Nat.le_of_ble_eq_true rfl) dX12_course_35 ⟨Nat.le_of_ble_eq_true rfl, Nat.le_of_ble_eq_true rfl⟩ (fun r_11 u_10 H locs w_12 X => ?_)
        have X : Wd D A s [((a 0), .inr (12, (mF a))), ((a 2), .inl (cI, 4, .inl (fun _ => (0 : Int32)))), ((a 6), .inl (cI, 96, .inl (fun _ => (0 : Int32)))), ((a 13), .inl (cI, 3, .inl (fun _ => (0 : Int32))))] H locs := X
        refine W.widen (k := 0) (n := 0) (Nat.le_of_ble_eq_true rfl) (Nat.le_of_ble_eq_true rfl) ?_
        obtain ⟨rfl, fw_12⟩ | ⟨rfl, fw_12⟩ : (r_11 = (1 : Int32) ∧ ((0 : Int) ≤ (p4).toInt ∧ (p4).toInt ≤ (60 : Int))) ∨ (r_11 = (0 : Int32) ∧ ((p4).toInt < (0 : Int) ∨ (60 : Int) < (p4).toInt)) := w_12
        · refine lv_if_ne (tgt := 47) hx hb dX12_course_38 (by decide) (fun _ => ?_) (fun c0 => absurd c0 (by decide))
          refine lv_aload_n hx hb dX12_course_47 rfl (lv_at hl 0 rfl) ?_
          refine x_get (own := RX12) (T := TX12) C X 0 rfl rfl 1 (by decide) k_9_17 rfl rfl (v := .ref (a 2)) rfl dX12_course_48 ?_
          refine lv_iconst (v := (0 : Int32)) hx hb dX12_course_51 (by decide) ?_
          refine x_iald C X 1 0 rfl rfl (j := 0) rfl (vp_in_nI (n := 0) (by omega) (by omega)) (v := (0 : Int32)) (rfl) dX12_course_52 ?_
          refine lv_bipush (v := (6 : Int32)) hx hb dX12_course_53 (by decide) ?_
          refine lv_icmp_ne (tgt := 64) hx hb dX12_course_55 (by decide) (fun _ => ?_) (fun c0 => absurd c0 (by decide))
          refine lv_aload_n hx hb dX12_course_64 rfl (lv_at hl 0 rfl) ?_
          refine x_get (own := RX12) (T := TX12) C X 0 rfl rfl 1 (by decide) k_9_17 rfl rfl (v := .ref (a 2)) rfl dX12_course_65 ?_
          refine lv_iconst (v := (0 : Int32)) hx hb dX12_course_68 (by decide) ?_
          refine x_iald C X 1 0 rfl rfl (j := 0) rfl (vp_in_nI (n := 0) (by omega) (by omega)) (v := (0 : Int32)) (rfl) dX12_course_69 ?_
          refine lv_istore (lv' := [(5, .int (0 : Int32)), (0, .ref (a 0)), (1, .int p1), (2, .int p2), (3, .int p3), (4, .int p4)]) hx hb dX12_course_70 hl (by decide) rfl (fun ls hl => ?_)
          refine lv_iconst (v := (0 : Int32)) hx hb dX12_course_72 (by decide) ?_
          refine lv_istore (lv' := [(6, .int (0 : Int32)), (5, .int (0 : Int32)), (0, .ref (a 0)), (1, .int p1), (2, .int p2), (3, .int p3), (4, .int p4)]) hx hb dX12_course_73 hl (by decide) rfl (fun ls hl => ?_)
          have L75 : ∀ (n : Nat) (i : Nat) (f75_0 : Nat → Int32) (H : Heap) (locs : List Loc) (ls : Array Slot), (h1 : i ≤ 4) → 4 < i + n → Wd D A s [((a 0), .inr (12, (mF a))), ((a 2), .inl (cI, 4, .inl (fun _ => (0 : Int32)))), ((a 6), .inl (cI, 96, .inl (f75_0))), ((a 13), .inl (cI, 3, .inl (fun _ => (0 : Int32))))] H locs → lv_has ls 7 [(6, .int (nI (i))), (5, .int (0 : Int32)), (0, .ref (a 0)), (1, .int p1), (2, .int p2), (3, .int p3), (4, .int p4)] → W p l e ({ frames := 1, cells := 0, slots := 0, locals := 22 } : Room) s m ([.ref (a 0), .int p1, .int p2, .int p3, .int p4] : List Value).toArray below meth c H locs 0 0 (MQ below (va_Qi (fun (r : Int32) (u : Unit) => (r = (0 : Int32) ∧ (0 ≤ p1.toInt ∧ p1.toInt ≤ 60 ∧ 0 ≤ p2.toInt ∧ p2.toInt ≤ 60 ∧ 0 ≤ p3.toInt ∧ p3.toInt ≤ 60 ∧ 0 ≤ p4.toInt ∧ p4.toInt ≤ 60)) ∨ (r = (-1 : Int32) ∧ (p1.toInt < 0 ∨ 60 < p1.toInt ∨ p2.toInt < 0 ∨ 60 < p2.toInt ∨ p3.toInt < 0 ∨ 60 < p3.toInt ∨ p4.toInt < 0 ∨ 60 < p4.toInt))) (fun u t => Aft D A ((fun (_ : Unit) => []) u) t) A) ([.ref (a 0), .int p1, .int p2, .int p3, .int p4] : List Value).toArray s 0 0 A) (F0 m 75 ls []) := by
            intro n
            induction n with
            | zero => intro i f75_0 H locs ls h1 hn; exact absurd hn (by omega)
            | succ n ih =>
              intro i f75_0 H locs ls h1 hn X hl
              have ih75 := ih
              refine lv_iload hx hb dX12_course_75 (lv_at hl 0 rfl) ?_
              refine lv_iconst (v := (4 : Int32)) hx hb dX12_course_77 (by decide) ?_
              refine lv_icmp_ge (tgt := 130) hx hb dX12_course_78 (by decide) (fun c_13 => ?_) (fun c_13 => ?_)
              · have fc_13 : (4 : Int) ≤ ((i : Nat) : Int) := (by have h9 := i_le c_13; simp only [nI_toInt (n := i) (by omega)] at h9; exact h9)
                refine lv_aload_n hx hb dX12_course_130 rfl (lv_at hl 2 rfl) ?_
                refine x_get (own := RX12) (T := TX12) C X 0 rfl rfl 1 (by decide) k_9_17 rfl rfl (v := .ref (a 2)) rfl dX12_course_131 ?_
                refine lv_iconst (v := (0 : Int32)) hx hb dX12_course_134 (by decide) ?_
                refine lv_dup2_11 hx hb dX12_course_135 rfl rfl ?_
                refine x_iald C X 1 0 rfl rfl (j := 0) rfl (vp_in_nI (n := 0) (by omega) (by omega)) (v := (0 : Int32)) (rfl) dX12_course_136 ?_
                refine lv_iconst (v := (1 : Int32)) hx hb dX12_course_137 (by decide) ?_
                refine lv_iadd hx hb dX12_course_138 ?_
                refine x_eqi (show (0 : Int32) + (1 : Int32) = (1 : Int32) from by decide +kernel) ?_
                refine x_iast C X 1 0 rfl rfl (j := 0) rfl (vp_in_nI (n := 0) (by omega) (by omega)) dX12_course_139 (fun H locs X => ?_)
                have X : Wd D A s [((a 0), .inr (12, (mF a))), ((a 2), .inl (cI, 4, .inl (upd (fun _ => (0 : Int32)) (0) ((1 : Int32))))), ((a 6), .inl (cI, 96, .inl (f75_0))), ((a 13), .inl (cI, 3, .inl (fun _ => (0 : Int32))))] H locs := X
                refine lv_iload hx hb dX12_course_140 (lv_at hl 1 rfl) ?_
                exact x_iret C X hr hlk (v := (0 : Int32)) (by first | rfl | decide) (()) [] (by decide) rfl (Or.inl (⟨rfl, by omega⟩)) (Nat.le_of_ble_eq_true rfl) (Nat.le_of_ble_eq_true rfl) dX12_course_142
              · have fc_13 : ((i : Nat) : Int) < (4 : Int) := (by have h9 := i_nle c_13; simp only [nI_toInt (n := i) (by omega)] at h9; exact h9)
                refine lv_aload_n hx hb dX12_course_81 rfl (lv_at hl 2 rfl) ?_
                refine x_get (own := RX12) (T := TX12) C X 0 rfl rfl 5 (by decide) k_9_21 rfl rfl (v := .ref (a 6)) rfl dX12_course_82 ?_
                refine lv_iconst (v := (4 : Int32)) hx hb dX12_course_85 (by decide) ?_
                refine lv_iload hx hb dX12_course_86 (lv_at hl 1 rfl) ?_
                refine lv_imul hx hb dX12_course_88 ?_
                refine x_eqi (show (4 : Int32) * (0 : Int32) = (0 : Int32) from by decide +kernel) ?_
                refine lv_iload hx hb dX12_course_89 (lv_at hl 0 rfl) ?_
                refine lv_iadd hx hb dX12_course_91 ?_
                refine x_eqi (show (0 : Int32) + (nI (i)) = (nI (0 + i)) from nI_add 0 i) ?_
                refine lv_iload hx hb dX12_course_92 (lv_at hl 0 rfl) ?_
                refine lv_if_ne (tgt := 101) hx hb dX12_course_94 (by decide) (fun c_14 => ?_) (fun c_14 => ?_)
                · have fc_14 : ((i : Nat) : Int) ≠ (0 : Int) := (by have h9 := i_ne c_14; simp only [nI_toInt (n := i) (by omega)] at h9; exact h9)
                  refine lv_iload hx hb dX12_course_101 (lv_at hl 0 rfl) ?_
                  refine lv_iconst (v := (1 : Int32)) hx hb dX12_course_103 (by decide) ?_
                  refine lv_icmp_ne (tgt := 111) hx hb dX12_course_104 (by decide) (fun c_15 => ?_) (fun c_15 => ?_)
                  · have fc_15 : ((i : Nat) : Int) ≠ (1 : Int) := (by have h9 := i_ne c_15; simp only [nI_toInt (n := i) (by omega)] at h9; exact h9)
                    refine lv_iload hx hb dX12_course_111 (lv_at hl 0 rfl) ?_
                    refine lv_iconst (v := (2 : Int32)) hx hb dX12_course_113 (by decide) ?_
                    refine lv_icmp_ne (tgt := 121) hx hb dX12_course_114 (by decide) (fun c_16 => ?_) (fun c_16 => ?_)
                    · have fc_16 : ((i : Nat) : Int) ≠ (2 : Int) := (by have h9 := i_ne c_16; simp only [nI_toInt (n := i) (by omega)] at h9; exact h9)
                      refine lv_iload hx hb dX12_course_121 (lv_at hl 6 rfl) ?_
                      refine x_iast C X 2 0 rfl rfl (j := 0 + i) (nI_clamp (by omega)) (vp_in_nI (by omega) (by omega)) dX12_course_123 (fun H locs X => ?_)
                      have X : Wd D A s [((a 0), .inr (12, (mF a))), ((a 2), .inl (cI, 4, .inl (fun _ => (0 : Int32)))), ((a 6), .inl (cI, 96, .inl (upd (f75_0) (0 + i) (p4)))), ((a 13), .inl (cI, 3, .inl (fun _ => (0 : Int32))))] H locs := X
                      refine lv_iinc (v := (nI (i + 1))) (lv' := [(6, .int (nI (i + 1))), (5, .int (0 : Int32)), (0, .ref (a 0)), (1, .int p1), (2, .int p2), (3, .int p3), (4, .int p4)]) hx hb dX12_course_124 hl (k := 0) rfl (nI_add _ 1) (by decide) rfl (fun ls hl => ?_)
                      refine lv_goto (tgt := 75) hx hb dX12_course_127 (by decide) ?_
                      exact ih75  (i + 1) (upd (f75_0) (0 + i) (p4)) H locs ls (by omega) (by omega) (x_sub X [0, 1, 2, 3] (by decide) rfl) (lv_sub hl [0, 1, 2, 3, 4, 5, 6] rfl)
                    · have fc_16 : ((i : Nat) : Int) = (2 : Int) := (by have h9 := i_eq c_16; simp only [nI_toInt (n := i) (by omega)] at h9; exact h9)
                      refine lv_iload_n hx hb dX12_course_117 rfl (lv_at hl 5 rfl) ?_
                      refine lv_goto (tgt := 123) hx hb dX12_course_118 (by decide) ?_
                      refine x_iast C X 2 0 rfl rfl (j := 0 + i) (nI_clamp (by omega)) (vp_in_nI (by omega) (by omega)) dX12_course_123 (fun H locs X => ?_)
                      have X : Wd D A s [((a 0), .inr (12, (mF a))), ((a 2), .inl (cI, 4, .inl (fun _ => (0 : Int32)))), ((a 6), .inl (cI, 96, .inl (upd (f75_0) (0 + i) (p3)))), ((a 13), .inl (cI, 3, .inl (fun _ => (0 : Int32))))] H locs := X
                      refine lv_iinc (v := (nI (i + 1))) (lv' := [(6, .int (nI (i + 1))), (5, .int (0 : Int32)), (0, .ref (a 0)), (1, .int p1), (2, .int p2), (3, .int p3), (4, .int p4)]) hx hb dX12_course_124 hl (k := 0) rfl (nI_add _ 1) (by decide) rfl (fun ls hl => ?_)
                      refine lv_goto (tgt := 75) hx hb dX12_course_127 (by decide) ?_
                      exact ih75  (i + 1) (upd (f75_0) (0 + i) (p3)) H locs ls (by omega) (by omega) (x_sub X [0, 1, 2, 3] (by decide) rfl) (lv_sub hl [0, 1, 2, 3, 4, 5, 6] rfl)
                  · have fc_15 : ((i : Nat) : Int) = (1 : Int) := (by have h9 := i_eq c_15; simp only [nI_toInt (n := i) (by omega)] at h9; exact h9)
                    refine lv_iload_n hx hb dX12_course_107 rfl (lv_at hl 4 rfl) ?_
                    refine lv_goto (tgt := 123) hx hb dX12_course_108 (by decide) ?_
                    refine x_iast C X 2 0 rfl rfl (j := 0 + i) (nI_clamp (by omega)) (vp_in_nI (by omega) (by omega)) dX12_course_123 (fun H locs X => ?_)
                    have X : Wd D A s [((a 0), .inr (12, (mF a))), ((a 2), .inl (cI, 4, .inl (fun _ => (0 : Int32)))), ((a 6), .inl (cI, 96, .inl (upd (f75_0) (0 + i) (p2)))), ((a 13), .inl (cI, 3, .inl (fun _ => (0 : Int32))))] H locs := X
                    refine lv_iinc (v := (nI (i + 1))) (lv' := [(6, .int (nI (i + 1))), (5, .int (0 : Int32)), (0, .ref (a 0)), (1, .int p1), (2, .int p2), (3, .int p3), (4, .int p4)]) hx hb dX12_course_124 hl (k := 0) rfl (nI_add _ 1) (by decide) rfl (fun ls hl => ?_)
                    refine lv_goto (tgt := 75) hx hb dX12_course_127 (by decide) ?_
                    exact ih75  (i + 1) (upd (f75_0) (0 + i) (p2)) H locs ls (by omega) (by omega) (x_sub X [0, 1, 2, 3] (by decide) rfl) (lv_sub hl [0, 1, 2, 3, 4, 5, 6] rfl)
                · have fc_14 : ((i : Nat) : Int) = (0 : Int) := (by have h9 := i_eq c_14; simp only [nI_toInt (n := i) (by omega)] at h9; exact h9)
                  refine lv_iload_n hx hb dX12_course_97 rfl (lv_at hl 3 rfl) ?_
                  refine lv_goto (tgt := 123) hx hb dX12_course_98 (by decide) ?_
                  refine x_iast C X 2 0 rfl rfl (j := 0 + i) (nI_clamp (by omega)) (vp_in_nI (by omega) (by omega)) dX12_course_123 (fun H locs X => ?_)
                  have X : Wd D A s [((a 0), .inr (12, (mF a))), ((a 2), .inl (cI, 4, .inl (fun _ => (0 : Int32)))), ((a 6), .inl (cI, 96, .inl (upd (f75_0) (0 + i) (p1)))), ((a 13), .inl (cI, 3, .inl (fun _ => (0 : Int32))))] H locs := X
                  refine lv_iinc (v := (nI (i + 1))) (lv' := [(6, .int (nI (i + 1))), (5, .int (0 : Int32)), (0, .ref (a 0)), (1, .int p1), (2, .int p2), (3, .int p3), (4, .int p4)]) hx hb dX12_course_124 hl (k := 0) rfl (nI_add _ 1) (by decide) rfl (fun ls hl => ?_)
                  refine lv_goto (tgt := 75) hx hb dX12_course_127 (by decide) ?_
                  exact ih75  (i + 1) (upd (f75_0) (0 + i) (p1)) H locs ls (by omega) (by omega) (x_sub X [0, 1, 2, 3] (by decide) rfl) (lv_sub hl [0, 1, 2, 3, 4, 5, 6] rfl)
          exact L75 (4 + 1) (0) (fun _ => (0 : Int32)) H locs ls (by omega) (by omega) (x_sub X [0, 1, 2, 3] (by decide) rfl) (lv_sub hl [0, 1, 2, 3, 4, 5, 6] rfl)
        · refine lv_if_ne (tgt := 47) hx hb dX12_course_38 (by decide) (fun c0 => absurd (by decide) c0) (fun _ => ?_)
          refine lv_aload_n hx hb dX12_course_41 rfl (lv_at hl 0 rfl) ?_
          refine lv_iconst (v := (0 : Int32)) hx hb dX12_course_42 (by decide) ?_
          refine x_cV (own := RX12) (wr := [((a 2), .inl (cI, 4, .inl (fun _ => (0 : Int32)))), ((a 6), .inl (cI, 96, .inl (fun _ => (0 : Int32))))]) (As := [.int (0 : Int32)]) C X hl.1 (cm_refuses l D cI cJ cZ cB cO a) [0, 3] [1, 2] ⟨rfl, rfl, by decide, by decide, by decide⟩ (qb := 0) rfl rfl k_13_2 k_13_3 k_13_4 k_1_5 k_13_5 (n := 1) (by decide +kernel) ⟨Nat.le_of_ble_eq_true rfl, Nat.le_of_ble_eq_true rfl⟩ rfl rfl (Nat.le_of_ble_eq_true rfl) dX12_course_43 ⟨Nat.le_of_ble_eq_true rfl, Nat.le_of_ble_eq_true rfl⟩ (fun r_18 u_17 H locs w_19 X => ?_)
          have X : Wd D A s [((a 2), .inl (cI, 4, .inl (fun _ => (0 : Int32)))), ((a 6), .inl (cI, 96, .inl (fun _ => (0 : Int32))))] H locs := X
          refine W.widen (k := 0) (n := 0) (Nat.le_of_ble_eq_true rfl) (Nat.le_of_ble_eq_true rfl) ?_
          obtain ⟨rfl, fw_19⟩ : r_18 = (-1 : Int32) ∧ True := w_19
          exact x_iret C X hr hlk (v := (-1 : Int32)) (by first | rfl | decide) (()) [] (by decide) rfl (Or.inr (⟨rfl, by omega⟩)) (Nat.le_of_ble_eq_true rfl) (Nat.le_of_ble_eq_true rfl) dX12_course_46
      · refine lv_if_eq (tgt := 41) hx hb dX12_course_27 (by decide) (fun _ => ?_) (fun c0 => absurd (by decide) c0)
        refine lv_aload_n hx hb dX12_course_41 rfl (lv_at hl 0 rfl) ?_
        refine lv_iconst (v := (0 : Int32)) hx hb dX12_course_42 (by decide) ?_
        refine x_cV (own := RX12) (wr := [((a 2), .inl (cI, 4, .inl (fun _ => (0 : Int32)))), ((a 6), .inl (cI, 96, .inl (fun _ => (0 : Int32))))]) (As := [.int (0 : Int32)]) C X hl.1 (cm_refuses l D cI cJ cZ cB cO a) [0, 3] [1, 2] ⟨rfl, rfl, by decide, by decide, by decide⟩ (qb := 0) rfl rfl k_13_2 k_13_3 k_13_4 k_1_5 k_13_5 (n := 1) (by decide +kernel) ⟨Nat.le_of_ble_eq_true rfl, Nat.le_of_ble_eq_true rfl⟩ rfl rfl (Nat.le_of_ble_eq_true rfl) dX12_course_43 ⟨Nat.le_of_ble_eq_true rfl, Nat.le_of_ble_eq_true rfl⟩ (fun r_21 u_20 H locs w_22 X => ?_)
        have X : Wd D A s [((a 2), .inl (cI, 4, .inl (fun _ => (0 : Int32)))), ((a 6), .inl (cI, 96, .inl (fun _ => (0 : Int32))))] H locs := X
        refine W.widen (k := 0) (n := 0) (Nat.le_of_ble_eq_true rfl) (Nat.le_of_ble_eq_true rfl) ?_
        obtain ⟨rfl, fw_22⟩ : r_21 = (-1 : Int32) ∧ True := w_22
        exact x_iret C X hr hlk (v := (-1 : Int32)) (by first | rfl | decide) (()) [] (by decide) rfl (Or.inr (⟨rfl, by omega⟩)) (Nat.le_of_ble_eq_true rfl) (Nat.le_of_ble_eq_true rfl) dX12_course_46
    · refine lv_if_eq (tgt := 41) hx hb dX12_course_17 (by decide) (fun _ => ?_) (fun c0 => absurd (by decide) c0)
      refine lv_aload_n hx hb dX12_course_41 rfl (lv_at hl 0 rfl) ?_
      refine lv_iconst (v := (0 : Int32)) hx hb dX12_course_42 (by decide) ?_
      refine x_cV (own := RX12) (wr := [((a 2), .inl (cI, 4, .inl (fun _ => (0 : Int32)))), ((a 6), .inl (cI, 96, .inl (fun _ => (0 : Int32))))]) (As := [.int (0 : Int32)]) C X hl.1 (cm_refuses l D cI cJ cZ cB cO a) [0, 3] [1, 2] ⟨rfl, rfl, by decide, by decide, by decide⟩ (qb := 0) rfl rfl k_13_2 k_13_3 k_13_4 k_1_5 k_13_5 (n := 1) (by decide +kernel) ⟨Nat.le_of_ble_eq_true rfl, Nat.le_of_ble_eq_true rfl⟩ rfl rfl (Nat.le_of_ble_eq_true rfl) dX12_course_43 ⟨Nat.le_of_ble_eq_true rfl, Nat.le_of_ble_eq_true rfl⟩ (fun r_24 u_23 H locs w_25 X => ?_)
      have X : Wd D A s [((a 2), .inl (cI, 4, .inl (fun _ => (0 : Int32)))), ((a 6), .inl (cI, 96, .inl (fun _ => (0 : Int32))))] H locs := X
      refine W.widen (k := 0) (n := 0) (Nat.le_of_ble_eq_true rfl) (Nat.le_of_ble_eq_true rfl) ?_
      obtain ⟨rfl, fw_25⟩ : r_24 = (-1 : Int32) ∧ True := w_25
      exact x_iret C X hr hlk (v := (-1 : Int32)) (by first | rfl | decide) (()) [] (by decide) rfl (Or.inr (⟨rfl, by omega⟩)) (Nat.le_of_ble_eq_true rfl) (Nat.le_of_ble_eq_true rfl) dX12_course_46
  · refine lv_if_eq (tgt := 41) hx hb dX12_course_7 (by decide) (fun _ => ?_) (fun c0 => absurd (by decide) c0)
    refine lv_aload_n hx hb dX12_course_41 rfl (lv_at hl 0 rfl) ?_
    refine lv_iconst (v := (0 : Int32)) hx hb dX12_course_42 (by decide) ?_
    refine x_cV (own := RX12) (wr := [((a 2), .inl (cI, 4, .inl (fun _ => (0 : Int32)))), ((a 6), .inl (cI, 96, .inl (fun _ => (0 : Int32))))]) (As := [.int (0 : Int32)]) C X hl.1 (cm_refuses l D cI cJ cZ cB cO a) [0, 3] [1, 2] ⟨rfl, rfl, by decide, by decide, by decide⟩ (qb := 0) rfl rfl k_13_2 k_13_3 k_13_4 k_1_5 k_13_5 (n := 1) (by decide +kernel) ⟨Nat.le_of_ble_eq_true rfl, Nat.le_of_ble_eq_true rfl⟩ rfl rfl (Nat.le_of_ble_eq_true rfl) dX12_course_43 ⟨Nat.le_of_ble_eq_true rfl, Nat.le_of_ble_eq_true rfl⟩ (fun r_27 u_26 H locs w_28 X => ?_)
    have X : Wd D A s [((a 2), .inl (cI, 4, .inl (fun _ => (0 : Int32)))), ((a 6), .inl (cI, 96, .inl (fun _ => (0 : Int32))))] H locs := X
    refine W.widen (k := 0) (n := 0) (Nat.le_of_ble_eq_true rfl) (Nat.le_of_ble_eq_true rfl) ?_
    obtain ⟨rfl, fw_28⟩ : r_27 = (-1 : Int32) ∧ True := w_28
    exact x_iret C X hr hlk (v := (-1 : Int32)) (by first | rfl | decide) (()) [] (by decide) rfl (Or.inr (⟨rfl, by omega⟩)) (Nat.le_of_ble_eq_true rfl) (Nat.le_of_ble_eq_true rfl) dX12_course_46
set_option maxHeartbeats 4000000 in
set_option maxRecDepth 100000 in
theorem cm_week (l : Launch) (D : va_G) (cI cJ cZ cB : ClassId) (cO : ClassId) (a : Nat → Nat) (p1 : Int32) (p2 : Int32) :
    CI l D [(cI, .int), (cJ, .long), (cZ, .boolean), (cB, .byte), (cO, .object "LuckLinks$World")] yX12_week cX12_week 3 (some .boolean) ({ frames := 1, cells := 0, slots := 0, locals := 22 } : Room) [.ref (a 0), .int p1, .int p2] [((a 0), .inr (12, (mF a))), ((a 2), .inl (cI, 4, .inl (fun _ => (0 : Int32)))), ((a 13), .inl (cI, 3, .inl (fun _ => (0 : Int32))))] (fun (r : Int32) (u : Unit) => (r = (0 : Int32) ∧ True)) (fun (_ : Unit) => []) := by
  intro sz
  refine body_of (y := yX12_week) (cc := cX12_week) (maxL := 3) (ret := (some .boolean)) (rm := ({ frames := 1, cells := 0, slots := 0, locals := 22 } : Room)) (wc := [((a 0), .inr (12, (mF a))), ((a 2), .inl (cI, 4, .inl (fun _ => (0 : Int32)))), ((a 13), .inl (cI, 3, .inl (fun _ => (0 : Int32))))]) (tys := [(cI, .int), (cJ, .long), (cZ, .boolean), (cB, .byte), (cO, .object "LuckLinks$World")]) (D := D) (sz := sz) (own := RX12) (av := [.ref (a 0), .int p1, .int p2]) (Qc := fun A => va_Qi (fun (r : Int32) (u : Unit) => (r = (0 : Int32) ∧ True)) (fun u t => Aft D A ((fun (_ : Unit) => []) u) t) A) (by decide) rfl (Nat.le_of_ble_eq_true rfl) (fun p e s m below meth c A ls C hr hlk hin X hl => ?_)
  have hx := C.1
  have hb := C.2.1
  have hown := C.2.2.2.1
  have hts := C.2.2.2.2.1
  have hl : lv_has ls 3 [(0, .ref (a 0)), (1, .int p1), (2, .int p2)] := hl
  show W p l e _ s m _ below meth c s.heap [] 0 0 (MQ below (va_Qi (fun (r : Int32) (u : Unit) => (r = (0 : Int32) ∧ True)) (fun u t => Aft D A ((fun (_ : Unit) => []) u) t) A) ([.ref (a 0), .int p1, .int p2] : List Value).toArray s 0 0 A) (F0 m 0 ls [])
  have X : Wd D A s [((a 0), .inr (12, (mF a))), ((a 2), .inl (cI, 4, .inl (fun _ => (0 : Int32)))), ((a 13), .inl (cI, 3, .inl (fun _ => (0 : Int32))))] s.heap [] := X
  obtain ⟨H, locs, eH, eL⟩ : ∃ H locs, H = s.heap ∧ locs = ([] : List Loc) := ⟨_, _, rfl, rfl⟩
  rw [← eH, ← eL] at X ⊢
  clear eH eL
  refine lv_iload_n hx hb dX12_week_0 rfl (lv_at hl 1 rfl) ?_
  refine x_cS (own := RX12) (wr := [((a 0), .inr (12, (mF a))), ((a 2), .inl (cI, 4, .inl (fun _ => (0 : Int32)))), ((a 13), .inl (cI, 3, .inl (fun _ => (0 : Int32))))]) (As := [.int p1]) C X hl.1 (c_isWeekM l D cI cJ cZ cB cO p1) [] [0, 1, 2] ⟨rfl, rfl, by decide, by decide, by decide⟩ k_14_11 k_14_12 k_1_5 k_14_13 (n := 1) (by decide +kernel) ⟨Nat.le_of_ble_eq_true rfl, Nat.le_of_ble_eq_true rfl⟩ rfl rfl (Nat.le_of_ble_eq_true rfl) dX12_week_1 ⟨Nat.le_of_ble_eq_true rfl, Nat.le_of_ble_eq_true rfl⟩ (fun r_2 u_1 H locs w_3 X => ?_)
  have X : Wd D A s [((a 0), .inr (12, (mF a))), ((a 2), .inl (cI, 4, .inl (fun _ => (0 : Int32)))), ((a 13), .inl (cI, 3, .inl (fun _ => (0 : Int32))))] H locs := X
  refine W.widen (k := 0) (n := 0) (Nat.le_of_ble_eq_true rfl) (Nat.le_of_ble_eq_true rfl) ?_
  obtain ⟨rfl, fw_3⟩ | ⟨rfl, fw_3⟩ : (r_2 = (1 : Int32) ∧ (0 ≤ (p1).toInt ∧ (p1).toInt ≤ 39)) ∨ (r_2 = (0 : Int32) ∧ ((p1).toInt < 0 ∨ 39 < (p1).toInt)) := w_3
  · refine lv_if_eq (tgt := 32) hx hb dX12_week_4 (by decide) (fun c0 => absurd c0 (by decide)) (fun _ => ?_)
    refine lv_iload_n hx hb dX12_week_7 rfl (lv_at hl 2 rfl) ?_
    refine lv_iconst (v := (0 : Int32)) hx hb dX12_week_8 (by decide) ?_
    refine lv_aload_n hx hb dX12_week_9 rfl (lv_at hl 0 rfl) ?_
    refine x_get (own := RX12) (T := TX12) C X 0 rfl rfl 1 (by decide) k_9_17 rfl rfl (v := .ref (a 2)) rfl dX12_week_10 ?_
    refine lv_iconst (v := (0 : Int32)) hx hb dX12_week_13 (by decide) ?_
    refine x_iald C X 1 0 rfl rfl (j := 0) rfl (vp_in_nI (n := 0) (by omega) (by omega)) (v := (0 : Int32)) (rfl) dX12_week_14 ?_
    refine lv_iconst (v := (1 : Int32)) hx hb dX12_week_15 (by decide) ?_
    refine lv_isub hx hb dX12_week_16 ?_
    refine x_eqi (show (0 : Int32) - (1 : Int32) = (-1 : Int32) from by decide +kernel) ?_
    refine x_cS (own := RX12) (wr := [((a 0), .inr (12, (mF a))), ((a 2), .inl (cI, 4, .inl (fun _ => (0 : Int32)))), ((a 13), .inl (cI, 3, .inl (fun _ => (0 : Int32))))]) (As := [.int p2, .int (0 : Int32), .int (-1 : Int32)]) C X hl.1 (c_within l D cI cJ cZ cB cO p2 (0 : Int32) (-1 : Int32)) [] [0, 1, 2] ⟨rfl, rfl, by decide, by decide, by decide⟩ k_12_23 k_13_0 k_1_5 k_13_1 (n := 3) (by decide +kernel) ⟨Nat.le_of_ble_eq_true rfl, Nat.le_of_ble_eq_true rfl⟩ rfl rfl (Nat.le_of_ble_eq_true rfl) dX12_week_17 ⟨Nat.le_of_ble_eq_true rfl, Nat.le_of_ble_eq_true rfl⟩ (fun r_5 u_4 H locs w_6 X => ?_)
    have X : Wd D A s [((a 0), .inr (12, (mF a))), ((a 2), .inl (cI, 4, .inl (fun _ => (0 : Int32)))), ((a 13), .inl (cI, 3, .inl (fun _ => (0 : Int32))))] H locs := X
    refine W.widen (k := 0) (n := 0) (Nat.le_of_ble_eq_true rfl) (Nat.le_of_ble_eq_true rfl) ?_
    obtain ⟨rfl, fw_6⟩ | ⟨rfl, fw_6⟩ : (r_5 = (1 : Int32) ∧ ((0 : Int) ≤ (p2).toInt ∧ (p2).toInt ≤ (-1 : Int))) ∨ (r_5 = (0 : Int32) ∧ ((p2).toInt < (0 : Int) ∨ (-1 : Int) < (p2).toInt)) := w_6
    · exfalso; omega
    · refine lv_if_eq (tgt := 32) hx hb dX12_week_20 (by decide) (fun _ => ?_) (fun c0 => absurd (by decide) c0)
      refine lv_aload_n hx hb dX12_week_32 rfl (lv_at hl 0 rfl) ?_
      refine x_cV (own := RX12) (wr := [((a 2), .inl (cI, 4, .inl (fun _ => (0 : Int32))))]) (As := []) C X hl.1 (cm_isNot l D cI cJ cZ cB cO a) [0, 2] [1] ⟨rfl, rfl, by decide, by decide, by decide⟩ (qb := 0) rfl rfl k_14_14 k_14_15 k_14_16 k_1_5 k_14_17 (n := 0) (by decide +kernel) ⟨Nat.le_of_ble_eq_true rfl, Nat.le_of_ble_eq_true rfl⟩ rfl rfl (Nat.le_of_ble_eq_true rfl) dX12_week_33 ⟨Nat.le_of_ble_eq_true rfl, Nat.le_of_ble_eq_true rfl⟩ (fun r_8 u_7 H locs w_9 X => ?_)
      have X : Wd D A s [((a 2), .inl (cI, 4, .inl (fun _ => (0 : Int32))))] H locs := X
      refine W.widen (k := 0) (n := 0) (Nat.le_of_ble_eq_true rfl) (Nat.le_of_ble_eq_true rfl) ?_
      obtain ⟨rfl, fw_9⟩ : r_8 = (0 : Int32) ∧ True := w_9
      exact x_iret C X hr hlk (v := (0 : Int32)) (by first | rfl | decide) (()) [] (by decide) rfl (⟨rfl, trivial⟩) (Nat.le_of_ble_eq_true rfl) (Nat.le_of_ble_eq_true rfl) dX12_week_36
  · refine lv_if_eq (tgt := 32) hx hb dX12_week_4 (by decide) (fun _ => ?_) (fun c0 => absurd (by decide) c0)
    refine lv_aload_n hx hb dX12_week_32 rfl (lv_at hl 0 rfl) ?_
    refine x_cV (own := RX12) (wr := [((a 2), .inl (cI, 4, .inl (fun _ => (0 : Int32))))]) (As := []) C X hl.1 (cm_isNot l D cI cJ cZ cB cO a) [0, 2] [1] ⟨rfl, rfl, by decide, by decide, by decide⟩ (qb := 0) rfl rfl k_14_14 k_14_15 k_14_16 k_1_5 k_14_17 (n := 0) (by decide +kernel) ⟨Nat.le_of_ble_eq_true rfl, Nat.le_of_ble_eq_true rfl⟩ rfl rfl (Nat.le_of_ble_eq_true rfl) dX12_week_33 ⟨Nat.le_of_ble_eq_true rfl, Nat.le_of_ble_eq_true rfl⟩ (fun r_11 u_10 H locs w_12 X => ?_)
    have X : Wd D A s [((a 2), .inl (cI, 4, .inl (fun _ => (0 : Int32))))] H locs := X
    refine W.widen (k := 0) (n := 0) (Nat.le_of_ble_eq_true rfl) (Nat.le_of_ble_eq_true rfl) ?_
    obtain ⟨rfl, fw_12⟩ : r_11 = (0 : Int32) ∧ True := w_12
    exact x_iret C X hr hlk (v := (0 : Int32)) (by first | rfl | decide) (()) [] (by decide) rfl (⟨rfl, trivial⟩) (Nat.le_of_ble_eq_true rfl) (Nat.le_of_ble_eq_true rfl) dX12_week_36
set_option maxHeartbeats 4000000 in
set_option maxRecDepth 100000 in
theorem cm_round (l : Launch) (D : va_G) (cI cJ cZ cB : ClassId) (cO : ClassId) (a : Nat → Nat) (p1 : Int32) (p2 : Int32) (p3 : Int32) (p4 : Int32) :
    CI l D [(cI, .int), (cJ, .long), (cZ, .boolean), (cB, .byte), (cO, .object "LuckLinks$World")] yX12_round cX12_round 9 (some .int) ({ frames := 1, cells := 0, slots := 0, locals := 21 } : Room) [.ref (a 0), .int p1, .int p2, .int p3, .int p4] [((a 0), .inr (12, (mF a))), ((a 1), .inl (cI, 4, .inl (fun _ => (0 : Int32)))), ((a 13), .inl (cI, 3, .inl (fun _ => (0 : Int32))))] (fun (r : Int32) (u : Unit) => (r = (-1 : Int32) ∧ True)) (fun (_ : Unit) => []) := by
  intro sz
  refine body_of (y := yX12_round) (cc := cX12_round) (maxL := 9) (ret := (some .int)) (rm := ({ frames := 1, cells := 0, slots := 0, locals := 21 } : Room)) (wc := [((a 0), .inr (12, (mF a))), ((a 1), .inl (cI, 4, .inl (fun _ => (0 : Int32)))), ((a 13), .inl (cI, 3, .inl (fun _ => (0 : Int32))))]) (tys := [(cI, .int), (cJ, .long), (cZ, .boolean), (cB, .byte), (cO, .object "LuckLinks$World")]) (D := D) (sz := sz) (own := RX12) (av := [.ref (a 0), .int p1, .int p2, .int p3, .int p4]) (Qc := fun A => va_Qi (fun (r : Int32) (u : Unit) => (r = (-1 : Int32) ∧ True)) (fun u t => Aft D A ((fun (_ : Unit) => []) u) t) A) (by decide) rfl (Nat.le_of_ble_eq_true rfl) (fun p e s m below meth c A ls C hr hlk hin X hl => ?_)
  have hx := C.1
  have hb := C.2.1
  have hown := C.2.2.2.1
  have hts := C.2.2.2.2.1
  have hl : lv_has ls 9 [(0, .ref (a 0)), (1, .int p1), (2, .int p2), (3, .int p3), (4, .int p4)] := hl
  show W p l e _ s m _ below meth c s.heap [] 0 0 (MQ below (va_Qi (fun (r : Int32) (u : Unit) => (r = (-1 : Int32) ∧ True)) (fun u t => Aft D A ((fun (_ : Unit) => []) u) t) A) ([.ref (a 0), .int p1, .int p2, .int p3, .int p4] : List Value).toArray s 0 0 A) (F0 m 0 ls [])
  have X : Wd D A s [((a 0), .inr (12, (mF a))), ((a 1), .inl (cI, 4, .inl (fun _ => (0 : Int32)))), ((a 13), .inl (cI, 3, .inl (fun _ => (0 : Int32))))] s.heap [] := X
  obtain ⟨H, locs, eH, eL⟩ : ∃ H locs, H = s.heap ∧ locs = ([] : List Loc) := ⟨_, _, rfl, rfl⟩
  rw [← eH, ← eL] at X ⊢
  clear eH eL
  refine lv_aload_n hx hb dX12_round_0 rfl (lv_at hl 0 rfl) ?_
  refine lv_iload_n hx hb dX12_round_1 rfl (lv_at hl 1 rfl) ?_
  refine x_cV (own := RX12) (wr := [((a 13), .inl (cI, 3, .inl (fun _ => (0 : Int32))))]) (As := [.int p1]) C X hl.1 (cm_isPlayer l D cI cJ cZ cB cO a p1) [0, 1] [2] ⟨rfl, rfl, by decide, by decide, by decide⟩ (qb := 0) rfl rfl k_16_12 k_16_13 k_16_14 k_1_5 k_16_15 (n := 1) (by decide +kernel) ⟨Nat.le_of_ble_eq_true rfl, Nat.le_of_ble_eq_true rfl⟩ rfl rfl (Nat.le_of_ble_eq_true rfl) dX12_round_2 ⟨Nat.le_of_ble_eq_true rfl, Nat.le_of_ble_eq_true rfl⟩ (fun r_2 u_1 H locs w_3 X => ?_)
  have X : Wd D A s [((a 13), .inl (cI, 3, .inl (fun _ => (0 : Int32)))), ((a 0), .inr (12, (mF a))), ((a 1), .inl (cI, 4, .inl (fun _ => (0 : Int32))))] H locs := X
  refine W.widen (k := 0) (n := 0) (Nat.le_of_ble_eq_true rfl) (Nat.le_of_ble_eq_true rfl) ?_
  obtain ⟨rfl, fw_3⟩ : r_2 = (0 : Int32) ∧ True := w_3
  refine lv_if_eq (tgt := 45) hx hb dX12_round_5 (by decide) (fun _ => ?_) (fun c0 => absurd (by decide) c0)
  refine lv_aload_n hx hb dX12_round_45 rfl (lv_at hl 0 rfl) ?_
  refine lv_iconst (v := (0 : Int32)) hx hb dX12_round_46 (by decide) ?_
  refine x_cV (own := RX12) (wr := [((a 1), .inl (cI, 4, .inl (fun _ => (0 : Int32))))]) (As := [.int (0 : Int32)]) C X hl.1 (cm_refuses l D cI cJ cZ cB cO a) [1, 0] [2] ⟨rfl, rfl, by decide, by decide, by decide⟩ (qb := 0) rfl rfl k_13_2 k_13_3 k_13_4 k_1_5 k_13_5 (n := 1) (by decide +kernel) ⟨Nat.le_of_ble_eq_true rfl, Nat.le_of_ble_eq_true rfl⟩ rfl rfl (Nat.le_of_ble_eq_true rfl) dX12_round_47 ⟨Nat.le_of_ble_eq_true rfl, Nat.le_of_ble_eq_true rfl⟩ (fun r_5 u_4 H locs w_6 X => ?_)
  have X : Wd D A s [((a 1), .inl (cI, 4, .inl (fun _ => (0 : Int32))))] H locs := X
  refine W.widen (k := 0) (n := 0) (Nat.le_of_ble_eq_true rfl) (Nat.le_of_ble_eq_true rfl) ?_
  obtain ⟨rfl, fw_6⟩ : r_5 = (-1 : Int32) ∧ True := w_6
  exact x_iret C X hr hlk (v := (-1 : Int32)) (by first | rfl | decide) (()) [] (by decide) rfl (⟨rfl, trivial⟩) (Nat.le_of_ble_eq_true rfl) (Nat.le_of_ble_eq_true rfl) dX12_round_50
set_option maxHeartbeats 4000000 in
set_option maxRecDepth 100000 in
theorem cm_bet (l : Launch) (D : va_G) (cI cJ cZ cB : ClassId) (cO : ClassId) (a : Nat → Nat) (p1 : Int32) (p2 : Int32) (p3 : Int32) :
    CI l D [(cI, .int), (cJ, .long), (cZ, .boolean), (cB, .byte), (cO, .object "LuckLinks$World")] yX12_bet cX12_bet 4 (some .boolean) ({ frames := 1, cells := 0, slots := 0, locals := 21 } : Room) [.ref (a 0), .int p1, .int p2, .int p3] [((a 0), .inr (12, (mF a))), ((a 1), .inl (cI, 4, .inl (fun _ => (0 : Int32)))), ((a 13), .inl (cI, 3, .inl (fun _ => (0 : Int32))))] (fun (r : Int32) (u : Unit) => (r = (0 : Int32) ∧ True)) (fun (_ : Unit) => []) := by
  intro sz
  refine body_of (y := yX12_bet) (cc := cX12_bet) (maxL := 4) (ret := (some .boolean)) (rm := ({ frames := 1, cells := 0, slots := 0, locals := 21 } : Room)) (wc := [((a 0), .inr (12, (mF a))), ((a 1), .inl (cI, 4, .inl (fun _ => (0 : Int32)))), ((a 13), .inl (cI, 3, .inl (fun _ => (0 : Int32))))]) (tys := [(cI, .int), (cJ, .long), (cZ, .boolean), (cB, .byte), (cO, .object "LuckLinks$World")]) (D := D) (sz := sz) (own := RX12) (av := [.ref (a 0), .int p1, .int p2, .int p3]) (Qc := fun A => va_Qi (fun (r : Int32) (u : Unit) => (r = (0 : Int32) ∧ True)) (fun u t => Aft D A ((fun (_ : Unit) => []) u) t) A) (by decide) rfl (Nat.le_of_ble_eq_true rfl) (fun p e s m below meth c A ls C hr hlk hin X hl => ?_)
  have hx := C.1
  have hb := C.2.1
  have hown := C.2.2.2.1
  have hts := C.2.2.2.2.1
  have hl : lv_has ls 4 [(0, .ref (a 0)), (1, .int p1), (2, .int p2), (3, .int p3)] := hl
  show W p l e _ s m _ below meth c s.heap [] 0 0 (MQ below (va_Qi (fun (r : Int32) (u : Unit) => (r = (0 : Int32) ∧ True)) (fun u t => Aft D A ((fun (_ : Unit) => []) u) t) A) ([.ref (a 0), .int p1, .int p2, .int p3] : List Value).toArray s 0 0 A) (F0 m 0 ls [])
  have X : Wd D A s [((a 0), .inr (12, (mF a))), ((a 1), .inl (cI, 4, .inl (fun _ => (0 : Int32)))), ((a 13), .inl (cI, 3, .inl (fun _ => (0 : Int32))))] s.heap [] := X
  obtain ⟨H, locs, eH, eL⟩ : ∃ H locs, H = s.heap ∧ locs = ([] : List Loc) := ⟨_, _, rfl, rfl⟩
  rw [← eH, ← eL] at X ⊢
  clear eH eL
  refine lv_aload_n hx hb dX12_bet_0 rfl (lv_at hl 0 rfl) ?_
  refine lv_iload_n hx hb dX12_bet_1 rfl (lv_at hl 1 rfl) ?_
  refine x_cV (own := RX12) (wr := [((a 13), .inl (cI, 3, .inl (fun _ => (0 : Int32))))]) (As := [.int p1]) C X hl.1 (cm_isPlayer l D cI cJ cZ cB cO a p1) [0, 1] [2] ⟨rfl, rfl, by decide, by decide, by decide⟩ (qb := 0) rfl rfl k_16_12 k_16_13 k_16_14 k_1_5 k_16_15 (n := 1) (by decide +kernel) ⟨Nat.le_of_ble_eq_true rfl, Nat.le_of_ble_eq_true rfl⟩ rfl rfl (Nat.le_of_ble_eq_true rfl) dX12_bet_2 ⟨Nat.le_of_ble_eq_true rfl, Nat.le_of_ble_eq_true rfl⟩ (fun r_2 u_1 H locs w_3 X => ?_)
  have X : Wd D A s [((a 13), .inl (cI, 3, .inl (fun _ => (0 : Int32)))), ((a 0), .inr (12, (mF a))), ((a 1), .inl (cI, 4, .inl (fun _ => (0 : Int32))))] H locs := X
  refine W.widen (k := 0) (n := 0) (Nat.le_of_ble_eq_true rfl) (Nat.le_of_ble_eq_true rfl) ?_
  obtain ⟨rfl, fw_3⟩ : r_2 = (0 : Int32) ∧ True := w_3
  refine lv_if_eq (tgt := 28) hx hb dX12_bet_5 (by decide) (fun _ => ?_) (fun c0 => absurd (by decide) c0)
  refine lv_aload_n hx hb dX12_bet_28 rfl (lv_at hl 0 rfl) ?_
  refine x_cV (own := RX12) (wr := [((a 1), .inl (cI, 4, .inl (fun _ => (0 : Int32))))]) (As := []) C X hl.1 (cm_isNot l D cI cJ cZ cB cO a) [1, 0] [2] ⟨rfl, rfl, by decide, by decide, by decide⟩ (qb := 0) rfl rfl k_14_14 k_14_15 k_14_16 k_1_5 k_14_17 (n := 0) (by decide +kernel) ⟨Nat.le_of_ble_eq_true rfl, Nat.le_of_ble_eq_true rfl⟩ rfl rfl (Nat.le_of_ble_eq_true rfl) dX12_bet_29 ⟨Nat.le_of_ble_eq_true rfl, Nat.le_of_ble_eq_true rfl⟩ (fun r_5 u_4 H locs w_6 X => ?_)
  have X : Wd D A s [((a 1), .inl (cI, 4, .inl (fun _ => (0 : Int32))))] H locs := X
  refine W.widen (k := 0) (n := 0) (Nat.le_of_ble_eq_true rfl) (Nat.le_of_ble_eq_true rfl) ?_
  obtain ⟨rfl, fw_6⟩ : r_5 = (0 : Int32) ∧ True := w_6
  exact x_iret C X hr hlk (v := (0 : Int32)) (by first | rfl | decide) (()) [] (by decide) rfl (⟨rfl, trivial⟩) (Nat.le_of_ble_eq_true rfl) (Nat.le_of_ble_eq_true rfl) dX12_bet_32
set_option maxHeartbeats 4000000 in
set_option maxRecDepth 100000 in
theorem cm_seed (l : Launch) (D : va_G) (cI cJ cZ cB : ClassId) (cO : ClassId) (a : Nat → Nat) (p1 : Int32) :
    CI l D [(cI, .int), (cJ, .long), (cZ, .boolean), (cB, .byte), (cO, .object "LuckLinks$World")] yX12_seed cX12_seed 2 (some .boolean) ({ frames := 1, cells := 0, slots := 0, locals := 22 } : Room) [.ref (a 0), .int p1] [((a 0), .inr (12, (mF a))), ((a 4), .inl (cJ, 4, .inr (.inl (vp_updL (fun _ => (0 : Int64)) (0) ((1 : Int64)))))), ((a 13), .inl (cI, 3, .inl (fun _ => (0 : Int32))))] (fun (r : Int32) (u : Unit) => (r = (1 : Int32) ∧ (0 ≤ p1.toInt ∧ p1.toInt ≤ 999999999)) ∨ (r = (0 : Int32) ∧ (p1.toInt < 0 ∨ 999999999 < p1.toInt))) (fun (_ : Unit) => []) := by
  intro sz
  refine body_of (y := yX12_seed) (cc := cX12_seed) (maxL := 2) (ret := (some .boolean)) (rm := ({ frames := 1, cells := 0, slots := 0, locals := 22 } : Room)) (wc := [((a 0), .inr (12, (mF a))), ((a 4), .inl (cJ, 4, .inr (.inl (vp_updL (fun _ => (0 : Int64)) (0) ((1 : Int64)))))), ((a 13), .inl (cI, 3, .inl (fun _ => (0 : Int32))))]) (tys := [(cI, .int), (cJ, .long), (cZ, .boolean), (cB, .byte), (cO, .object "LuckLinks$World")]) (D := D) (sz := sz) (own := RX12) (av := [.ref (a 0), .int p1]) (Qc := fun A => va_Qi (fun (r : Int32) (u : Unit) => (r = (1 : Int32) ∧ (0 ≤ p1.toInt ∧ p1.toInt ≤ 999999999)) ∨ (r = (0 : Int32) ∧ (p1.toInt < 0 ∨ 999999999 < p1.toInt))) (fun u t => Aft D A ((fun (_ : Unit) => []) u) t) A) (by decide) rfl (Nat.le_of_ble_eq_true rfl) (fun p e s m below meth c A ls C hr hlk hin X hl => ?_)
  have hx := C.1
  have hb := C.2.1
  have hown := C.2.2.2.1
  have hts := C.2.2.2.2.1
  have hl : lv_has ls 2 [(0, .ref (a 0)), (1, .int p1)] := hl
  show W p l e _ s m _ below meth c s.heap [] 0 0 (MQ below (va_Qi (fun (r : Int32) (u : Unit) => (r = (1 : Int32) ∧ (0 ≤ p1.toInt ∧ p1.toInt ≤ 999999999)) ∨ (r = (0 : Int32) ∧ (p1.toInt < 0 ∨ 999999999 < p1.toInt))) (fun u t => Aft D A ((fun (_ : Unit) => []) u) t) A) ([.ref (a 0), .int p1] : List Value).toArray s 0 0 A) (F0 m 0 ls [])
  have X : Wd D A s [((a 0), .inr (12, (mF a))), ((a 4), .inl (cJ, 4, .inr (.inl (vp_updL (fun _ => (0 : Int64)) (0) ((1 : Int64)))))), ((a 13), .inl (cI, 3, .inl (fun _ => (0 : Int32))))] s.heap [] := X
  obtain ⟨H, locs, eH, eL⟩ : ∃ H locs, H = s.heap ∧ locs = ([] : List Loc) := ⟨_, _, rfl, rfl⟩
  rw [← eH, ← eL] at X ⊢
  clear eH eL
  refine lv_iload_n hx hb dX12_seed_0 rfl (lv_at hl 1 rfl) ?_
  refine lv_iconst (v := (0 : Int32)) hx hb dX12_seed_1 (by decide) ?_
  refine lv_ldc (own := RX12) (v := (999999999 : Int32)) hx hb hown (hts _ k_17_22) dX12_seed_2 ?_
  refine x_cS (own := RX12) (wr := [((a 0), .inr (12, (mF a))), ((a 4), .inl (cJ, 4, .inr (.inl (vp_updL (fun _ => (0 : Int64)) (0) ((1 : Int64)))))), ((a 13), .inl (cI, 3, .inl (fun _ => (0 : Int32))))]) (As := [.int p1, .int (0 : Int32), .int (999999999 : Int32)]) C X hl.1 (c_within l D cI cJ cZ cB cO p1 (0 : Int32) (999999999 : Int32)) [] [0, 1, 2] ⟨rfl, rfl, by decide, by decide, by decide⟩ k_12_23 k_13_0 k_1_5 k_13_1 (n := 3) (by decide +kernel) ⟨Nat.le_of_ble_eq_true rfl, Nat.le_of_ble_eq_true rfl⟩ rfl rfl (Nat.le_of_ble_eq_true rfl) dX12_seed_4 ⟨Nat.le_of_ble_eq_true rfl, Nat.le_of_ble_eq_true rfl⟩ (fun r_2 u_1 H locs w_3 X => ?_)
  have X : Wd D A s [((a 0), .inr (12, (mF a))), ((a 4), .inl (cJ, 4, .inr (.inl (vp_updL (fun _ => (0 : Int64)) (0) ((1 : Int64)))))), ((a 13), .inl (cI, 3, .inl (fun _ => (0 : Int32))))] H locs := X
  refine W.widen (k := 0) (n := 0) (Nat.le_of_ble_eq_true rfl) (Nat.le_of_ble_eq_true rfl) ?_
  obtain ⟨rfl, fw_3⟩ | ⟨rfl, fw_3⟩ : (r_2 = (1 : Int32) ∧ ((0 : Int) ≤ (p1).toInt ∧ (p1).toInt ≤ (999999999 : Int))) ∨ (r_2 = (0 : Int32) ∧ ((p1).toInt < (0 : Int) ∨ (999999999 : Int) < (p1).toInt)) := w_3
  · refine lv_if_ne (tgt := 15) hx hb dX12_seed_7 (by decide) (fun _ => ?_) (fun c0 => absurd c0 (by decide))
    refine lv_aload_n hx hb dX12_seed_15 rfl (lv_at hl 0 rfl) ?_
    refine x_get (own := RX12) (T := TX12) C X 0 rfl rfl 3 (by decide) k_9_19 rfl rfl (v := .ref (a 4)) rfl dX12_seed_16 ?_
    refine lv_iconst (v := (0 : Int32)) hx hb dX12_seed_19 (by decide) ?_
    refine lv_iload_n hx hb dX12_seed_20 rfl (lv_at hl 1 rfl) ?_
    refine lv_i2l (v := (p1).toInt64) hx hb dX12_seed_21 (rfl) ?_
    refine x_last C X 1 1 rfl rfl (j := 0) rfl (vp_in_nI (n := 0) (by omega) (by omega)) dX12_seed_22 (fun H locs X => ?_)
    have X : Wd D A s [((a 0), .inr (12, (mF a))), ((a 4), .inl (cJ, 4, .inr (.inl (vp_updL (vp_updL (fun _ => (0 : Int64)) (0) ((1 : Int64))) (0) ((p1).toInt64))))), ((a 13), .inl (cI, 3, .inl (fun _ => (0 : Int32))))] H locs := X
    refine lv_iconst (v := (1 : Int32)) hx hb dX12_seed_23 (by decide) ?_
    exact x_iret C X hr hlk (v := (1 : Int32)) (by first | rfl | decide) (()) [] (by decide) rfl (Or.inl (⟨rfl, by omega⟩)) (Nat.le_of_ble_eq_true rfl) (Nat.le_of_ble_eq_true rfl) dX12_seed_24
  · refine lv_if_ne (tgt := 15) hx hb dX12_seed_7 (by decide) (fun c0 => absurd (by decide) c0) (fun _ => ?_)
    refine lv_aload_n hx hb dX12_seed_10 rfl (lv_at hl 0 rfl) ?_
    refine x_cV (own := RX12) (wr := [((a 4), .inl (cJ, 4, .inr (.inl (vp_updL (fun _ => (0 : Int64)) (0) ((1 : Int64))))))]) (As := []) C X hl.1 (cm_isNot l D cI cJ cZ cB cO a) [0, 2] [1] ⟨rfl, rfl, by decide, by decide, by decide⟩ (qb := 0) rfl rfl k_14_14 k_14_15 k_14_16 k_1_5 k_14_17 (n := 0) (by decide +kernel) ⟨Nat.le_of_ble_eq_true rfl, Nat.le_of_ble_eq_true rfl⟩ rfl rfl (Nat.le_of_ble_eq_true rfl) dX12_seed_11 ⟨Nat.le_of_ble_eq_true rfl, Nat.le_of_ble_eq_true rfl⟩ (fun r_5 u_4 H locs w_6 X => ?_)
    have X : Wd D A s [((a 4), .inl (cJ, 4, .inr (.inl (vp_updL (fun _ => (0 : Int64)) (0) ((1 : Int64))))))] H locs := X
    refine W.widen (k := 0) (n := 0) (Nat.le_of_ble_eq_true rfl) (Nat.le_of_ble_eq_true rfl) ?_
    obtain ⟨rfl, fw_6⟩ : r_5 = (0 : Int32) ∧ True := w_6
    exact x_iret C X hr hlk (v := (0 : Int32)) (by first | rfl | decide) (()) [] (by decide) rfl (Or.inr (⟨rfl, by omega⟩)) (Nat.le_of_ble_eq_true rfl) (Nat.le_of_ble_eq_true rfl) dX12_seed_14
set_option maxHeartbeats 4000000 in
set_option maxRecDepth 100000 in
theorem cm_fault (l : Launch) (D : va_G) (cI cJ cZ cB : ClassId) (cO : ClassId) (a : Nat → Nat) :
    CI l D [(cI, .int), (cJ, .long), (cZ, .boolean), (cB, .byte), (cO, .object "LuckLinks$World")] yX12_fault cX12_fault 1 (some .int) ({ frames := 0, cells := 0, slots := 0, locals := 0 } : Room) [.ref (a 0)] [((a 0), .inr (12, (mF a)))] (fun (r : Int32) (u : Unit) => (r = (-1 : Int32) ∧ True)) (fun (_ : Unit) => []) := by
  intro sz
  refine body_of (y := yX12_fault) (cc := cX12_fault) (maxL := 1) (ret := (some .int)) (rm := ({ frames := 0, cells := 0, slots := 0, locals := 0 } : Room)) (wc := [((a 0), .inr (12, (mF a)))]) (tys := [(cI, .int), (cJ, .long), (cZ, .boolean), (cB, .byte), (cO, .object "LuckLinks$World")]) (D := D) (sz := sz) (own := RX12) (av := [.ref (a 0)]) (Qc := fun A => va_Qi (fun (r : Int32) (u : Unit) => (r = (-1 : Int32) ∧ True)) (fun u t => Aft D A ((fun (_ : Unit) => []) u) t) A) (by decide) rfl (Nat.le_of_ble_eq_true rfl) (fun p e s m below meth c A ls C hr hlk hin X hl => ?_)
  have hx := C.1
  have hb := C.2.1
  have hown := C.2.2.2.1
  have hts := C.2.2.2.2.1
  have hl : lv_has ls 1 [(0, .ref (a 0))] := hl
  show W p l e _ s m _ below meth c s.heap [] 0 0 (MQ below (va_Qi (fun (r : Int32) (u : Unit) => (r = (-1 : Int32) ∧ True)) (fun u t => Aft D A ((fun (_ : Unit) => []) u) t) A) ([.ref (a 0)] : List Value).toArray s 0 0 A) (F0 m 0 ls [])
  have X : Wd D A s [((a 0), .inr (12, (mF a)))] s.heap [] := X
  obtain ⟨H, locs, eH, eL⟩ : ∃ H locs, H = s.heap ∧ locs = ([] : List Loc) := ⟨_, _, rfl, rfl⟩
  rw [← eH, ← eL] at X ⊢
  clear eH eL
  refine lv_aload_n hx hb dX12_fault_0 rfl (lv_at hl 0 rfl) ?_
  refine x_get (own := RX12) (T := TX12) C X 0 rfl rfl 38 (by decide) k_11_4 rfl rfl (v := .int (-1 : Int32)) rfl dX12_fault_1 ?_
  exact x_iret C X hr hlk (v := (-1 : Int32)) (by first | rfl | decide) (()) [] (by decide) rfl (⟨rfl, trivial⟩) (Nat.le_of_ble_eq_true rfl) (Nat.le_of_ble_eq_true rfl) dX12_fault_4
set_option maxHeartbeats 4000000 in
set_option maxRecDepth 100000 in
theorem cm_run (l : Launch) (D : va_G) (cI cJ cZ cB : ClassId) (cO : ClassId) (a : Nat → Nat) (p1 : Int32) (p2 : Int32) :
    CI l D [(cI, .int), (cJ, .long), (cZ, .boolean), (cB, .byte), (cO, .object "LuckLinks$World")] yX12_run cX12_run 9 (some .int) ({ frames := 1, cells := 0, slots := 0, locals := 21 } : Room) [.ref (a 0), .int p1, .int p2] [((a 0), .inr (12, (mF a))), ((a 1), .inl (cI, 4, .inl (fun _ => (0 : Int32)))), ((a 7), .inl (cI, 160, .inl (wk0))), ((a 13), .inl (cI, 3, .inl (fun _ => (0 : Int32))))] (fun (r : Int32) (u : Unit) => (r = (-1 : Int32) ∧ True)) (fun (_ : Unit) => []) := by
  intro sz
  refine body_of (y := yX12_run) (cc := cX12_run) (maxL := 9) (ret := (some .int)) (rm := ({ frames := 1, cells := 0, slots := 0, locals := 21 } : Room)) (wc := [((a 0), .inr (12, (mF a))), ((a 1), .inl (cI, 4, .inl (fun _ => (0 : Int32)))), ((a 7), .inl (cI, 160, .inl (wk0))), ((a 13), .inl (cI, 3, .inl (fun _ => (0 : Int32))))]) (tys := [(cI, .int), (cJ, .long), (cZ, .boolean), (cB, .byte), (cO, .object "LuckLinks$World")]) (D := D) (sz := sz) (own := RX12) (av := [.ref (a 0), .int p1, .int p2]) (Qc := fun A => va_Qi (fun (r : Int32) (u : Unit) => (r = (-1 : Int32) ∧ True)) (fun u t => Aft D A ((fun (_ : Unit) => []) u) t) A) (by decide) rfl (Nat.le_of_ble_eq_true rfl) (fun p e s m below meth c A ls C hr hlk hin X hl => ?_)
  have hx := C.1
  have hb := C.2.1
  have hown := C.2.2.2.1
  have hts := C.2.2.2.2.1
  have hl : lv_has ls 9 [(0, .ref (a 0)), (1, .int p1), (2, .int p2)] := hl
  show W p l e _ s m _ below meth c s.heap [] 0 0 (MQ below (va_Qi (fun (r : Int32) (u : Unit) => (r = (-1 : Int32) ∧ True)) (fun u t => Aft D A ((fun (_ : Unit) => []) u) t) A) ([.ref (a 0), .int p1, .int p2] : List Value).toArray s 0 0 A) (F0 m 0 ls [])
  have X : Wd D A s [((a 0), .inr (12, (mF a))), ((a 1), .inl (cI, 4, .inl (fun _ => (0 : Int32)))), ((a 7), .inl (cI, 160, .inl (wk0))), ((a 13), .inl (cI, 3, .inl (fun _ => (0 : Int32))))] s.heap [] := X
  obtain ⟨H, locs, eH, eL⟩ : ∃ H locs, H = s.heap ∧ locs = ([] : List Loc) := ⟨_, _, rfl, rfl⟩
  rw [← eH, ← eL] at X ⊢
  clear eH eL
  refine lv_iconst (v := (0 : Int32)) hx hb dX12_run_0 (by decide) ?_
  refine lv_istore_n (lv' := [(3, .int (0 : Int32)), (0, .ref (a 0)), (1, .int p1), (2, .int p2)]) hx hb dX12_run_1 rfl hl (by decide) rfl (fun ls hl => ?_)
  refine lv_iconst (v := (0 : Int32)) hx hb dX12_run_2 (by decide) ?_
  refine lv_istore (lv' := [(4, .int (0 : Int32)), (3, .int (0 : Int32)), (0, .ref (a 0)), (1, .int p1), (2, .int p2)]) hx hb dX12_run_3 hl (by decide) rfl (fun ls hl => ?_)
  refine lv_iload hx hb dX12_run_5 (lv_at hl 0 rfl) ?_
  refine lv_aload_n hx hb dX12_run_7 rfl (lv_at hl 2 rfl) ?_
  refine x_get (own := RX12) (T := TX12) C X 0 rfl rfl 0 (by decide) k_9_16 rfl rfl (v := .ref (a 1)) rfl dX12_run_8 ?_
  refine lv_iconst (v := (0 : Int32)) hx hb dX12_run_11 (by decide) ?_
  refine x_iald C X 1 0 rfl rfl (j := 0) rfl (vp_in_nI (n := 0) (by omega) (by omega)) (v := (0 : Int32)) (rfl) dX12_run_12 ?_
  refine lv_icmp_ge (tgt := 44) hx hb dX12_run_13 (by decide) (fun _ => ?_) (fun c0 => absurd (by decide) c0)
  refine lv_iload_n hx hb dX12_run_44 rfl (lv_at hl 3 rfl) ?_
  refine x_cS (own := RX12) (wr := [((a 0), .inr (12, (mF a))), ((a 1), .inl (cI, 4, .inl (fun _ => (0 : Int32)))), ((a 7), .inl (cI, 160, .inl (wk0))), ((a 13), .inl (cI, 3, .inl (fun _ => (0 : Int32))))]) (As := [.int p1]) C X hl.1 (c_isWeekM l D cI cJ cZ cB cO p1) [] [0, 1, 2, 3] ⟨rfl, rfl, by decide, by decide, by decide⟩ k_14_11 k_14_12 k_1_5 k_14_13 (n := 1) (by decide +kernel) ⟨Nat.le_of_ble_eq_true rfl, Nat.le_of_ble_eq_true rfl⟩ rfl rfl (Nat.le_of_ble_eq_true rfl) dX12_run_45 ⟨Nat.le_of_ble_eq_true rfl, Nat.le_of_ble_eq_true rfl⟩ (fun r_2 u_1 H locs w_3 X => ?_)
  have X : Wd D A s [((a 0), .inr (12, (mF a))), ((a 1), .inl (cI, 4, .inl (fun _ => (0 : Int32)))), ((a 7), .inl (cI, 160, .inl (wk0))), ((a 13), .inl (cI, 3, .inl (fun _ => (0 : Int32))))] H locs := X
  refine W.widen (k := 0) (n := 0) (Nat.le_of_ble_eq_true rfl) (Nat.le_of_ble_eq_true rfl) ?_
  obtain ⟨rfl, fw_3⟩ | ⟨rfl, fw_3⟩ : (r_2 = (1 : Int32) ∧ (0 ≤ (p1).toInt ∧ (p1).toInt ≤ 39)) ∨ (r_2 = (0 : Int32) ∧ ((p1).toInt < 0 ∨ 39 < (p1).toInt)) := w_3
  · refine lv_if_eq (tgt := 81) hx hb dX12_run_48 (by decide) (fun c0 => absurd c0 (by decide)) (fun _ => ?_)
    refine lv_aload_n hx hb dX12_run_51 rfl (lv_at hl 2 rfl) ?_
    refine x_get (own := RX12) (T := TX12) C X 0 rfl rfl 6 (by decide) k_9_22 rfl rfl (v := .ref (a 7)) rfl dX12_run_52 ?_
    refine lv_iload_n hx hb dX12_run_55 rfl (lv_at hl 3 rfl) ?_
    refine x_iald C X 2 0 rfl rfl (j := (p1).toInt.toNat) rfl (vp_in_iff.mpr ⟨by omega, by omega⟩) (v := (-1 : Int32)) (by unfold wk0; exact if_pos (by omega)) dX12_run_56 ?_
    refine lv_if_lt (tgt := 81) hx hb dX12_run_57 (by decide) (fun _ => ?_) (fun c0 => absurd (by decide) c0)
    refine lv_aload_n hx hb dX12_run_81 rfl (lv_at hl 2 rfl) ?_
    refine lv_iconst (v := (0 : Int32)) hx hb dX12_run_82 (by decide) ?_
    refine x_cV (own := RX12) (wr := [((a 1), .inl (cI, 4, .inl (fun _ => (0 : Int32)))), ((a 7), .inl (cI, 160, .inl (wk0)))]) (As := [.int (0 : Int32)]) C X hl.1 (cm_refuses l D cI cJ cZ cB cO a) [0, 3] [1, 2] ⟨rfl, rfl, by decide, by decide, by decide⟩ (qb := 0) rfl rfl k_13_2 k_13_3 k_13_4 k_1_5 k_13_5 (n := 1) (by decide +kernel) ⟨Nat.le_of_ble_eq_true rfl, Nat.le_of_ble_eq_true rfl⟩ rfl rfl (Nat.le_of_ble_eq_true rfl) dX12_run_83 ⟨Nat.le_of_ble_eq_true rfl, Nat.le_of_ble_eq_true rfl⟩ (fun r_5 u_4 H locs w_6 X => ?_)
    have X : Wd D A s [((a 1), .inl (cI, 4, .inl (fun _ => (0 : Int32)))), ((a 7), .inl (cI, 160, .inl (wk0)))] H locs := X
    refine W.widen (k := 0) (n := 0) (Nat.le_of_ble_eq_true rfl) (Nat.le_of_ble_eq_true rfl) ?_
    obtain ⟨rfl, fw_6⟩ : r_5 = (-1 : Int32) ∧ True := w_6
    exact x_iret C X hr hlk (v := (-1 : Int32)) (by first | rfl | decide) (()) [] (by decide) rfl (⟨rfl, trivial⟩) (Nat.le_of_ble_eq_true rfl) (Nat.le_of_ble_eq_true rfl) dX12_run_86
  · refine lv_if_eq (tgt := 81) hx hb dX12_run_48 (by decide) (fun _ => ?_) (fun c0 => absurd (by decide) c0)
    refine lv_aload_n hx hb dX12_run_81 rfl (lv_at hl 2 rfl) ?_
    refine lv_iconst (v := (0 : Int32)) hx hb dX12_run_82 (by decide) ?_
    refine x_cV (own := RX12) (wr := [((a 1), .inl (cI, 4, .inl (fun _ => (0 : Int32)))), ((a 7), .inl (cI, 160, .inl (wk0)))]) (As := [.int (0 : Int32)]) C X hl.1 (cm_refuses l D cI cJ cZ cB cO a) [0, 3] [1, 2] ⟨rfl, rfl, by decide, by decide, by decide⟩ (qb := 0) rfl rfl k_13_2 k_13_3 k_13_4 k_1_5 k_13_5 (n := 1) (by decide +kernel) ⟨Nat.le_of_ble_eq_true rfl, Nat.le_of_ble_eq_true rfl⟩ rfl rfl (Nat.le_of_ble_eq_true rfl) dX12_run_83 ⟨Nat.le_of_ble_eq_true rfl, Nat.le_of_ble_eq_true rfl⟩ (fun r_8 u_7 H locs w_9 X => ?_)
    have X : Wd D A s [((a 1), .inl (cI, 4, .inl (fun _ => (0 : Int32)))), ((a 7), .inl (cI, 160, .inl (wk0)))] H locs := X
    refine W.widen (k := 0) (n := 0) (Nat.le_of_ble_eq_true rfl) (Nat.le_of_ble_eq_true rfl) ?_
    obtain ⟨rfl, fw_9⟩ : r_8 = (-1 : Int32) ∧ True := w_9
    exact x_iret C X hr hlk (v := (-1 : Int32)) (by first | rfl | decide) (()) [] (by decide) rfl (⟨rfl, trivial⟩) (Nat.le_of_ble_eq_true rfl) (Nat.le_of_ble_eq_true rfl) dX12_run_86
set_option maxHeartbeats 4000000 in
set_option maxRecDepth 100000 in
theorem cm_gift (l : Launch) (D : va_G) (cI cJ cZ cB : ClassId) (cO : ClassId) (a : Nat → Nat) (p1 : Int32) (p2 : Int32) :
    CI l D [(cI, .int), (cJ, .long), (cZ, .boolean), (cB, .byte), (cO, .object "LuckLinks$World")] yX12_gift cX12_gift 3 (some .int) ({ frames := 1, cells := 0, slots := 0, locals := 21 } : Room) [.ref (a 0), .int p1, .int p2] [((a 0), .inr (12, (mF a))), ((a 1), .inl (cI, 4, .inl (fun _ => (0 : Int32))))] (fun (r : Int32) (u : Unit) => (r = (-100 : Int32) ∧ True)) (fun (_ : Unit) => []) := by
  intro sz
  refine body_of (y := yX12_gift) (cc := cX12_gift) (maxL := 3) (ret := (some .int)) (rm := ({ frames := 1, cells := 0, slots := 0, locals := 21 } : Room)) (wc := [((a 0), .inr (12, (mF a))), ((a 1), .inl (cI, 4, .inl (fun _ => (0 : Int32))))]) (tys := [(cI, .int), (cJ, .long), (cZ, .boolean), (cB, .byte), (cO, .object "LuckLinks$World")]) (D := D) (sz := sz) (own := RX12) (av := [.ref (a 0), .int p1, .int p2]) (Qc := fun A => va_Qi (fun (r : Int32) (u : Unit) => (r = (-100 : Int32) ∧ True)) (fun u t => Aft D A ((fun (_ : Unit) => []) u) t) A) (by decide) rfl (Nat.le_of_ble_eq_true rfl) (fun p e s m below meth c A ls C hr hlk hin X hl => ?_)
  have hx := C.1
  have hb := C.2.1
  have hown := C.2.2.2.1
  have hts := C.2.2.2.2.1
  have hl : lv_has ls 3 [(0, .ref (a 0)), (1, .int p1), (2, .int p2)] := hl
  show W p l e _ s m _ below meth c s.heap [] 0 0 (MQ below (va_Qi (fun (r : Int32) (u : Unit) => (r = (-100 : Int32) ∧ True)) (fun u t => Aft D A ((fun (_ : Unit) => []) u) t) A) ([.ref (a 0), .int p1, .int p2] : List Value).toArray s 0 0 A) (F0 m 0 ls [])
  have X : Wd D A s [((a 0), .inr (12, (mF a))), ((a 1), .inl (cI, 4, .inl (fun _ => (0 : Int32))))] s.heap [] := X
  obtain ⟨H, locs, eH, eL⟩ : ∃ H locs, H = s.heap ∧ locs = ([] : List Loc) := ⟨_, _, rfl, rfl⟩
  rw [← eH, ← eL] at X ⊢
  clear eH eL
  refine lv_aload_n hx hb dX12_gift_0 rfl (lv_at hl 0 rfl) ?_
  refine lv_iload_n hx hb dX12_gift_1 rfl (lv_at hl 1 rfl) ?_
  refine x_cV (own := RX12) (wr := []) (As := [.int p1]) C X hl.1 (cm_isPlayer l D cI cJ cZ cB cO a p1) [0, 1] [] ⟨rfl, rfl, by decide, by decide, by decide⟩ (qb := 0) rfl rfl k_16_12 k_16_13 k_16_14 k_1_5 k_16_15 (n := 1) (by decide +kernel) ⟨Nat.le_of_ble_eq_true rfl, Nat.le_of_ble_eq_true rfl⟩ rfl rfl (Nat.le_of_ble_eq_true rfl) dX12_gift_2 ⟨Nat.le_of_ble_eq_true rfl, Nat.le_of_ble_eq_true rfl⟩ (fun r_2 u_1 H locs w_3 X => ?_)
  have X : Wd D A s [((a 0), .inr (12, (mF a))), ((a 1), .inl (cI, 4, .inl (fun _ => (0 : Int32))))] H locs := X
  refine W.widen (k := 0) (n := 0) (Nat.le_of_ble_eq_true rfl) (Nat.le_of_ble_eq_true rfl) ?_
  obtain ⟨rfl, fw_3⟩ : r_2 = (0 : Int32) ∧ True := w_3
  refine lv_if_eq (tgt := 30) hx hb dX12_gift_5 (by decide) (fun _ => ?_) (fun c0 => absurd (by decide) c0)
  refine lv_bipush (v := (-100 : Int32)) hx hb dX12_gift_30 (by decide) ?_
  exact x_iret C X hr hlk (v := (-100 : Int32)) (by first | rfl | decide) (()) [] (by decide) rfl (⟨rfl, trivial⟩) (Nat.le_of_ble_eq_true rfl) (Nat.le_of_ble_eq_true rfl) dX12_gift_32
set_option maxHeartbeats 4000000 in
set_option maxRecDepth 100000 in
theorem cm_score (l : Launch) (D : va_G) (cI cJ cZ cB : ClassId) (cO : ClassId) (a : Nat → Nat) (p1 : Int32) (p2 : Int32) (p3 : Int32) (p4 : Int32) :
    CI l D [(cI, .int), (cJ, .long), (cZ, .boolean), (cB, .byte), (cO, .object "LuckLinks$World")] yX12_score cX12_score 6 (some .int) ({ frames := 1, cells := 0, slots := 0, locals := 21 } : Room) [.ref (a 0), .int p1, .int p2, .int p3, .int p4] [((a 0), .inr (12, (mF a))), ((a 1), .inl (cI, 4, .inl (fun _ => (0 : Int32))))] (fun (r : Int32) (u : Unit) => (r = (-1 : Int32) ∧ True)) (fun (_ : Unit) => []) := by
  intro sz
  refine body_of (y := yX12_score) (cc := cX12_score) (maxL := 6) (ret := (some .int)) (rm := ({ frames := 1, cells := 0, slots := 0, locals := 21 } : Room)) (wc := [((a 0), .inr (12, (mF a))), ((a 1), .inl (cI, 4, .inl (fun _ => (0 : Int32))))]) (tys := [(cI, .int), (cJ, .long), (cZ, .boolean), (cB, .byte), (cO, .object "LuckLinks$World")]) (D := D) (sz := sz) (own := RX12) (av := [.ref (a 0), .int p1, .int p2, .int p3, .int p4]) (Qc := fun A => va_Qi (fun (r : Int32) (u : Unit) => (r = (-1 : Int32) ∧ True)) (fun u t => Aft D A ((fun (_ : Unit) => []) u) t) A) (by decide) rfl (Nat.le_of_ble_eq_true rfl) (fun p e s m below meth c A ls C hr hlk hin X hl => ?_)
  have hx := C.1
  have hb := C.2.1
  have hown := C.2.2.2.1
  have hts := C.2.2.2.2.1
  have hl : lv_has ls 6 [(0, .ref (a 0)), (1, .int p1), (2, .int p2), (3, .int p3), (4, .int p4)] := hl
  show W p l e _ s m _ below meth c s.heap [] 0 0 (MQ below (va_Qi (fun (r : Int32) (u : Unit) => (r = (-1 : Int32) ∧ True)) (fun u t => Aft D A ((fun (_ : Unit) => []) u) t) A) ([.ref (a 0), .int p1, .int p2, .int p3, .int p4] : List Value).toArray s 0 0 A) (F0 m 0 ls [])
  have X : Wd D A s [((a 0), .inr (12, (mF a))), ((a 1), .inl (cI, 4, .inl (fun _ => (0 : Int32))))] s.heap [] := X
  obtain ⟨H, locs, eH, eL⟩ : ∃ H locs, H = s.heap ∧ locs = ([] : List Loc) := ⟨_, _, rfl, rfl⟩
  rw [← eH, ← eL] at X ⊢
  clear eH eL
  refine lv_aload_n hx hb dX12_score_0 rfl (lv_at hl 0 rfl) ?_
  refine lv_iload_n hx hb dX12_score_1 rfl (lv_at hl 1 rfl) ?_
  refine x_cV (own := RX12) (wr := []) (As := [.int p1]) C X hl.1 (cm_isPlayer l D cI cJ cZ cB cO a p1) [0, 1] [] ⟨rfl, rfl, by decide, by decide, by decide⟩ (qb := 0) rfl rfl k_16_12 k_16_13 k_16_14 k_1_5 k_16_15 (n := 1) (by decide +kernel) ⟨Nat.le_of_ble_eq_true rfl, Nat.le_of_ble_eq_true rfl⟩ rfl rfl (Nat.le_of_ble_eq_true rfl) dX12_score_2 ⟨Nat.le_of_ble_eq_true rfl, Nat.le_of_ble_eq_true rfl⟩ (fun r_2 u_1 H locs w_3 X => ?_)
  have X : Wd D A s [((a 0), .inr (12, (mF a))), ((a 1), .inl (cI, 4, .inl (fun _ => (0 : Int32))))] H locs := X
  refine W.widen (k := 0) (n := 0) (Nat.le_of_ble_eq_true rfl) (Nat.le_of_ble_eq_true rfl) ?_
  obtain ⟨rfl, fw_3⟩ : r_2 = (0 : Int32) ∧ True := w_3
  refine lv_if_eq (tgt := 48) hx hb dX12_score_5 (by decide) (fun _ => ?_) (fun c0 => absurd (by decide) c0)
  refine lv_iconst (v := (-1 : Int32)) hx hb dX12_score_48 (by decide) ?_
  exact x_iret C X hr hlk (v := (-1 : Int32)) (by first | rfl | decide) (()) [] (by decide) rfl (⟨rfl, trivial⟩) (Nat.le_of_ble_eq_true rfl) (Nat.le_of_ble_eq_true rfl) dX12_score_49
set_option maxHeartbeats 4000000 in
set_option maxRecDepth 100000 in
theorem cm_place (l : Launch) (D : va_G) (cI cJ cZ cB : ClassId) (cO : ClassId) (a : Nat → Nat) (p1 : Int32) (p2 : Int32) :
    CI l D [(cI, .int), (cJ, .long), (cZ, .boolean), (cB, .byte), (cO, .object "LuckLinks$World")] yX12_place cX12_place 3 (some .int) ({ frames := 1, cells := 0, slots := 0, locals := 21 } : Room) [.ref (a 0), .int p1, .int p2] [((a 0), .inr (12, (mF a))), ((a 1), .inl (cI, 4, .inl (fun _ => (0 : Int32))))] (fun (r : Int32) (u : Unit) => (r = (-1 : Int32) ∧ True)) (fun (_ : Unit) => []) := by
  intro sz
  refine body_of (y := yX12_place) (cc := cX12_place) (maxL := 3) (ret := (some .int)) (rm := ({ frames := 1, cells := 0, slots := 0, locals := 21 } : Room)) (wc := [((a 0), .inr (12, (mF a))), ((a 1), .inl (cI, 4, .inl (fun _ => (0 : Int32))))]) (tys := [(cI, .int), (cJ, .long), (cZ, .boolean), (cB, .byte), (cO, .object "LuckLinks$World")]) (D := D) (sz := sz) (own := RX12) (av := [.ref (a 0), .int p1, .int p2]) (Qc := fun A => va_Qi (fun (r : Int32) (u : Unit) => (r = (-1 : Int32) ∧ True)) (fun u t => Aft D A ((fun (_ : Unit) => []) u) t) A) (by decide) rfl (Nat.le_of_ble_eq_true rfl) (fun p e s m below meth c A ls C hr hlk hin X hl => ?_)
  have hx := C.1
  have hb := C.2.1
  have hown := C.2.2.2.1
  have hts := C.2.2.2.2.1
  have hl : lv_has ls 3 [(0, .ref (a 0)), (1, .int p1), (2, .int p2)] := hl
  show W p l e _ s m _ below meth c s.heap [] 0 0 (MQ below (va_Qi (fun (r : Int32) (u : Unit) => (r = (-1 : Int32) ∧ True)) (fun u t => Aft D A ((fun (_ : Unit) => []) u) t) A) ([.ref (a 0), .int p1, .int p2] : List Value).toArray s 0 0 A) (F0 m 0 ls [])
  have X : Wd D A s [((a 0), .inr (12, (mF a))), ((a 1), .inl (cI, 4, .inl (fun _ => (0 : Int32))))] s.heap [] := X
  obtain ⟨H, locs, eH, eL⟩ : ∃ H locs, H = s.heap ∧ locs = ([] : List Loc) := ⟨_, _, rfl, rfl⟩
  rw [← eH, ← eL] at X ⊢
  clear eH eL
  refine lv_aload_n hx hb dX12_place_0 rfl (lv_at hl 0 rfl) ?_
  refine lv_iload_n hx hb dX12_place_1 rfl (lv_at hl 1 rfl) ?_
  refine x_cV (own := RX12) (wr := []) (As := [.int p1]) C X hl.1 (cm_isPlayer l D cI cJ cZ cB cO a p1) [0, 1] [] ⟨rfl, rfl, by decide, by decide, by decide⟩ (qb := 0) rfl rfl k_16_12 k_16_13 k_16_14 k_1_5 k_16_15 (n := 1) (by decide +kernel) ⟨Nat.le_of_ble_eq_true rfl, Nat.le_of_ble_eq_true rfl⟩ rfl rfl (Nat.le_of_ble_eq_true rfl) dX12_place_2 ⟨Nat.le_of_ble_eq_true rfl, Nat.le_of_ble_eq_true rfl⟩ (fun r_2 u_1 H locs w_3 X => ?_)
  have X : Wd D A s [((a 0), .inr (12, (mF a))), ((a 1), .inl (cI, 4, .inl (fun _ => (0 : Int32))))] H locs := X
  refine W.widen (k := 0) (n := 0) (Nat.le_of_ble_eq_true rfl) (Nat.le_of_ble_eq_true rfl) ?_
  obtain ⟨rfl, fw_3⟩ : r_2 = (0 : Int32) ∧ True := w_3
  refine lv_if_eq (tgt := 24) hx hb dX12_place_5 (by decide) (fun _ => ?_) (fun c0 => absurd (by decide) c0)
  refine lv_iconst (v := (-1 : Int32)) hx hb dX12_place_24 (by decide) ?_
  exact x_iret C X hr hlk (v := (-1 : Int32)) (by first | rfl | decide) (()) [] (by decide) rfl (⟨rfl, trivial⟩) (Nat.le_of_ble_eq_true rfl) (Nat.le_of_ble_eq_true rfl) dX12_place_25
set_option maxHeartbeats 4000000 in
set_option maxRecDepth 100000 in
theorem cm_won (l : Launch) (D : va_G) (cI cJ cZ cB : ClassId) (cO : ClassId) (a : Nat → Nat) (p1 : Int32) (p2 : Int32) (p3 : Int32) (p4 : Int32) :
    CI l D [(cI, .int), (cJ, .long), (cZ, .boolean), (cB, .byte), (cO, .object "LuckLinks$World")] yX12_won cX12_won 7 (some .int) ({ frames := 1, cells := 0, slots := 0, locals := 21 } : Room) [.ref (a 0), .int p1, .int p2, .int p3, .int p4] [((a 0), .inr (12, (mF a))), ((a 1), .inl (cI, 4, .inl (fun _ => (0 : Int32))))] (fun (r : Int32) (u : Unit) => (r = (-1 : Int32) ∧ True)) (fun (_ : Unit) => []) := by
  intro sz
  refine body_of (y := yX12_won) (cc := cX12_won) (maxL := 7) (ret := (some .int)) (rm := ({ frames := 1, cells := 0, slots := 0, locals := 21 } : Room)) (wc := [((a 0), .inr (12, (mF a))), ((a 1), .inl (cI, 4, .inl (fun _ => (0 : Int32))))]) (tys := [(cI, .int), (cJ, .long), (cZ, .boolean), (cB, .byte), (cO, .object "LuckLinks$World")]) (D := D) (sz := sz) (own := RX12) (av := [.ref (a 0), .int p1, .int p2, .int p3, .int p4]) (Qc := fun A => va_Qi (fun (r : Int32) (u : Unit) => (r = (-1 : Int32) ∧ True)) (fun u t => Aft D A ((fun (_ : Unit) => []) u) t) A) (by decide) rfl (Nat.le_of_ble_eq_true rfl) (fun p e s m below meth c A ls C hr hlk hin X hl => ?_)
  have hx := C.1
  have hb := C.2.1
  have hown := C.2.2.2.1
  have hts := C.2.2.2.2.1
  have hl : lv_has ls 7 [(0, .ref (a 0)), (1, .int p1), (2, .int p2), (3, .int p3), (4, .int p4)] := hl
  show W p l e _ s m _ below meth c s.heap [] 0 0 (MQ below (va_Qi (fun (r : Int32) (u : Unit) => (r = (-1 : Int32) ∧ True)) (fun u t => Aft D A ((fun (_ : Unit) => []) u) t) A) ([.ref (a 0), .int p1, .int p2, .int p3, .int p4] : List Value).toArray s 0 0 A) (F0 m 0 ls [])
  have X : Wd D A s [((a 0), .inr (12, (mF a))), ((a 1), .inl (cI, 4, .inl (fun _ => (0 : Int32))))] s.heap [] := X
  obtain ⟨H, locs, eH, eL⟩ : ∃ H locs, H = s.heap ∧ locs = ([] : List Loc) := ⟨_, _, rfl, rfl⟩
  rw [← eH, ← eL] at X ⊢
  clear eH eL
  refine lv_aload_n hx hb dX12_won_0 rfl (lv_at hl 0 rfl) ?_
  refine lv_iload_n hx hb dX12_won_1 rfl (lv_at hl 1 rfl) ?_
  refine x_cV (own := RX12) (wr := []) (As := [.int p1]) C X hl.1 (cm_isPlayer l D cI cJ cZ cB cO a p1) [0, 1] [] ⟨rfl, rfl, by decide, by decide, by decide⟩ (qb := 0) rfl rfl k_16_12 k_16_13 k_16_14 k_1_5 k_16_15 (n := 1) (by decide +kernel) ⟨Nat.le_of_ble_eq_true rfl, Nat.le_of_ble_eq_true rfl⟩ rfl rfl (Nat.le_of_ble_eq_true rfl) dX12_won_2 ⟨Nat.le_of_ble_eq_true rfl, Nat.le_of_ble_eq_true rfl⟩ (fun r_2 u_1 H locs w_3 X => ?_)
  have X : Wd D A s [((a 0), .inr (12, (mF a))), ((a 1), .inl (cI, 4, .inl (fun _ => (0 : Int32))))] H locs := X
  refine W.widen (k := 0) (n := 0) (Nat.le_of_ble_eq_true rfl) (Nat.le_of_ble_eq_true rfl) ?_
  obtain ⟨rfl, fw_3⟩ : r_2 = (0 : Int32) ∧ True := w_3
  refine lv_if_eq (tgt := 26) hx hb dX12_won_5 (by decide) (fun _ => ?_) (fun c0 => absurd (by decide) c0)
  refine lv_iconst (v := (-1 : Int32)) hx hb dX12_won_26 (by decide) ?_
  exact x_iret C X hr hlk (v := (-1 : Int32)) (by first | rfl | decide) (()) [] (by decide) rfl (⟨rfl, trivial⟩) (Nat.le_of_ble_eq_true rfl) (Nat.le_of_ble_eq_true rfl) dX12_won_27
set_option maxHeartbeats 4000000 in
set_option maxRecDepth 100000 in
theorem cm_odds (l : Launch) (D : va_G) (cI cJ cZ cB : ClassId) (cO : ClassId) (a : Nat → Nat) (p1 : Int32) (p2 : Int32) (p3 : Int32) :
    CI l D [(cI, .int), (cJ, .long), (cZ, .boolean), (cB, .byte), (cO, .object "LuckLinks$World")] yX12_odds cX12_odds 13 (some .int) ({ frames := 1, cells := 0, slots := 0, locals := 21 } : Room) [.ref (a 0), .int p1, .int p2, .int p3] [((a 0), .inr (12, (mF a))), ((a 1), .inl (cI, 4, .inl (fun _ => (0 : Int32))))] (fun (r : Int32) (u : Unit) => (r = (-1 : Int32) ∧ True)) (fun (_ : Unit) => []) := by
  intro sz
  refine body_of (y := yX12_odds) (cc := cX12_odds) (maxL := 13) (ret := (some .int)) (rm := ({ frames := 1, cells := 0, slots := 0, locals := 21 } : Room)) (wc := [((a 0), .inr (12, (mF a))), ((a 1), .inl (cI, 4, .inl (fun _ => (0 : Int32))))]) (tys := [(cI, .int), (cJ, .long), (cZ, .boolean), (cB, .byte), (cO, .object "LuckLinks$World")]) (D := D) (sz := sz) (own := RX12) (av := [.ref (a 0), .int p1, .int p2, .int p3]) (Qc := fun A => va_Qi (fun (r : Int32) (u : Unit) => (r = (-1 : Int32) ∧ True)) (fun u t => Aft D A ((fun (_ : Unit) => []) u) t) A) (by decide) rfl (Nat.le_of_ble_eq_true rfl) (fun p e s m below meth c A ls C hr hlk hin X hl => ?_)
  have hx := C.1
  have hb := C.2.1
  have hown := C.2.2.2.1
  have hts := C.2.2.2.2.1
  have hl : lv_has ls 13 [(0, .ref (a 0)), (1, .int p1), (2, .int p2), (3, .int p3)] := hl
  show W p l e _ s m _ below meth c s.heap [] 0 0 (MQ below (va_Qi (fun (r : Int32) (u : Unit) => (r = (-1 : Int32) ∧ True)) (fun u t => Aft D A ((fun (_ : Unit) => []) u) t) A) ([.ref (a 0), .int p1, .int p2, .int p3] : List Value).toArray s 0 0 A) (F0 m 0 ls [])
  have X : Wd D A s [((a 0), .inr (12, (mF a))), ((a 1), .inl (cI, 4, .inl (fun _ => (0 : Int32))))] s.heap [] := X
  obtain ⟨H, locs, eH, eL⟩ : ∃ H locs, H = s.heap ∧ locs = ([] : List Loc) := ⟨_, _, rfl, rfl⟩
  rw [← eH, ← eL] at X ⊢
  clear eH eL
  refine lv_aload_n hx hb dX12_odds_0 rfl (lv_at hl 0 rfl) ?_
  refine lv_iload_n hx hb dX12_odds_1 rfl (lv_at hl 1 rfl) ?_
  refine x_cV (own := RX12) (wr := []) (As := [.int p1]) C X hl.1 (cm_isPlayer l D cI cJ cZ cB cO a p1) [0, 1] [] ⟨rfl, rfl, by decide, by decide, by decide⟩ (qb := 0) rfl rfl k_16_12 k_16_13 k_16_14 k_1_5 k_16_15 (n := 1) (by decide +kernel) ⟨Nat.le_of_ble_eq_true rfl, Nat.le_of_ble_eq_true rfl⟩ rfl rfl (Nat.le_of_ble_eq_true rfl) dX12_odds_2 ⟨Nat.le_of_ble_eq_true rfl, Nat.le_of_ble_eq_true rfl⟩ (fun r_2 u_1 H locs w_3 X => ?_)
  have X : Wd D A s [((a 0), .inr (12, (mF a))), ((a 1), .inl (cI, 4, .inl (fun _ => (0 : Int32))))] H locs := X
  refine W.widen (k := 0) (n := 0) (Nat.le_of_ble_eq_true rfl) (Nat.le_of_ble_eq_true rfl) ?_
  obtain ⟨rfl, fw_3⟩ : r_2 = (0 : Int32) ∧ True := w_3
  refine lv_if_eq (tgt := 40) hx hb dX12_odds_5 (by decide) (fun _ => ?_) (fun c0 => absurd (by decide) c0)
  refine lv_iconst (v := (-1 : Int32)) hx hb dX12_odds_40 (by decide) ?_
  exact x_iret C X hr hlk (v := (-1 : Int32)) (by first | rfl | decide) (()) [] (by decide) rfl (⟨rfl, trivial⟩) (Nat.le_of_ble_eq_true rfl) (Nat.le_of_ble_eq_true rfl) dX12_odds_41
set_option maxHeartbeats 4000000 in
set_option maxRecDepth 100000 in
theorem cm_years (l : Launch) (D : va_G) (cI cJ cZ cB : ClassId) (cO : ClassId) (a : Nat → Nat) (p1 : Int32) :
    CI l D [(cI, .int), (cJ, .long), (cZ, .boolean), (cB, .byte), (cO, .object "LuckLinks$World")] yX12_years cX12_years 5 (some .int) ({ frames := 1, cells := 0, slots := 0, locals := 21 } : Room) [.ref (a 0), .int p1] [((a 0), .inr (12, (mF a))), ((a 1), .inl (cI, 4, .inl (fun _ => (0 : Int32))))] (fun (r : Int32) (u : Unit) => (r = (-1 : Int32) ∧ True)) (fun (_ : Unit) => []) := by
  intro sz
  refine body_of (y := yX12_years) (cc := cX12_years) (maxL := 5) (ret := (some .int)) (rm := ({ frames := 1, cells := 0, slots := 0, locals := 21 } : Room)) (wc := [((a 0), .inr (12, (mF a))), ((a 1), .inl (cI, 4, .inl (fun _ => (0 : Int32))))]) (tys := [(cI, .int), (cJ, .long), (cZ, .boolean), (cB, .byte), (cO, .object "LuckLinks$World")]) (D := D) (sz := sz) (own := RX12) (av := [.ref (a 0), .int p1]) (Qc := fun A => va_Qi (fun (r : Int32) (u : Unit) => (r = (-1 : Int32) ∧ True)) (fun u t => Aft D A ((fun (_ : Unit) => []) u) t) A) (by decide) rfl (Nat.le_of_ble_eq_true rfl) (fun p e s m below meth c A ls C hr hlk hin X hl => ?_)
  have hx := C.1
  have hb := C.2.1
  have hown := C.2.2.2.1
  have hts := C.2.2.2.2.1
  have hl : lv_has ls 5 [(0, .ref (a 0)), (1, .int p1)] := hl
  show W p l e _ s m _ below meth c s.heap [] 0 0 (MQ below (va_Qi (fun (r : Int32) (u : Unit) => (r = (-1 : Int32) ∧ True)) (fun u t => Aft D A ((fun (_ : Unit) => []) u) t) A) ([.ref (a 0), .int p1] : List Value).toArray s 0 0 A) (F0 m 0 ls [])
  have X : Wd D A s [((a 0), .inr (12, (mF a))), ((a 1), .inl (cI, 4, .inl (fun _ => (0 : Int32))))] s.heap [] := X
  obtain ⟨H, locs, eH, eL⟩ : ∃ H locs, H = s.heap ∧ locs = ([] : List Loc) := ⟨_, _, rfl, rfl⟩
  rw [← eH, ← eL] at X ⊢
  clear eH eL
  refine lv_aload_n hx hb dX12_years_0 rfl (lv_at hl 0 rfl) ?_
  refine lv_iload_n hx hb dX12_years_1 rfl (lv_at hl 1 rfl) ?_
  refine x_cV (own := RX12) (wr := []) (As := [.int p1]) C X hl.1 (cm_isPlayer l D cI cJ cZ cB cO a p1) [0, 1] [] ⟨rfl, rfl, by decide, by decide, by decide⟩ (qb := 0) rfl rfl k_16_12 k_16_13 k_16_14 k_1_5 k_16_15 (n := 1) (by decide +kernel) ⟨Nat.le_of_ble_eq_true rfl, Nat.le_of_ble_eq_true rfl⟩ rfl rfl (Nat.le_of_ble_eq_true rfl) dX12_years_2 ⟨Nat.le_of_ble_eq_true rfl, Nat.le_of_ble_eq_true rfl⟩ (fun r_2 u_1 H locs w_3 X => ?_)
  have X : Wd D A s [((a 0), .inr (12, (mF a))), ((a 1), .inl (cI, 4, .inl (fun _ => (0 : Int32))))] H locs := X
  refine W.widen (k := 0) (n := 0) (Nat.le_of_ble_eq_true rfl) (Nat.le_of_ble_eq_true rfl) ?_
  obtain ⟨rfl, fw_3⟩ : r_2 = (0 : Int32) ∧ True := w_3
  refine lv_if_ne (tgt := 10) hx hb dX12_years_5 (by decide) (fun c0 => absurd (by decide) c0) (fun _ => ?_)
  refine lv_iconst (v := (-1 : Int32)) hx hb dX12_years_8 (by decide) ?_
  exact x_iret C X hr hlk (v := (-1 : Int32)) (by first | rfl | decide) (()) [] (by decide) rfl (⟨rfl, trivial⟩) (Nat.le_of_ble_eq_true rfl) (Nat.le_of_ble_eq_true rfl) dX12_years_9
set_option maxHeartbeats 4000000 in
set_option maxRecDepth 100000 in
theorem cm_listed (l : Launch) (D : va_G) (cI cJ cZ cB : ClassId) (cO : ClassId) (a : Nat → Nat) (p1 : Int32) (p2 : Int32) (p3 : Int32) :
    CI l D [(cI, .int), (cJ, .long), (cZ, .boolean), (cB, .byte), (cO, .object "LuckLinks$World")] yX12_listed cX12_listed 5 (some .int) ({ frames := 2, cells := 0, slots := 0, locals := 41 } : Room) [.ref (a 0), .int p1, .int p2, .int p3] [((a 0), .inr (12, (mF a))), ((a 1), .inl (cI, 4, .inl (fun _ => (0 : Int32))))] (fun (r : Int32) (u : Unit) => (r = (-1 : Int32) ∧ True)) (fun (_ : Unit) => []) := by
  intro sz
  refine body_of (y := yX12_listed) (cc := cX12_listed) (maxL := 5) (ret := (some .int)) (rm := ({ frames := 2, cells := 0, slots := 0, locals := 41 } : Room)) (wc := [((a 0), .inr (12, (mF a))), ((a 1), .inl (cI, 4, .inl (fun _ => (0 : Int32))))]) (tys := [(cI, .int), (cJ, .long), (cZ, .boolean), (cB, .byte), (cO, .object "LuckLinks$World")]) (D := D) (sz := sz) (own := RX12) (av := [.ref (a 0), .int p1, .int p2, .int p3]) (Qc := fun A => va_Qi (fun (r : Int32) (u : Unit) => (r = (-1 : Int32) ∧ True)) (fun u t => Aft D A ((fun (_ : Unit) => []) u) t) A) (by decide) rfl (Nat.le_of_ble_eq_true rfl) (fun p e s m below meth c A ls C hr hlk hin X hl => ?_)
  have hx := C.1
  have hb := C.2.1
  have hown := C.2.2.2.1
  have hts := C.2.2.2.2.1
  have hl : lv_has ls 5 [(0, .ref (a 0)), (1, .int p1), (2, .int p2), (3, .int p3)] := hl
  show W p l e _ s m _ below meth c s.heap [] 0 0 (MQ below (va_Qi (fun (r : Int32) (u : Unit) => (r = (-1 : Int32) ∧ True)) (fun u t => Aft D A ((fun (_ : Unit) => []) u) t) A) ([.ref (a 0), .int p1, .int p2, .int p3] : List Value).toArray s 0 0 A) (F0 m 0 ls [])
  have X : Wd D A s [((a 0), .inr (12, (mF a))), ((a 1), .inl (cI, 4, .inl (fun _ => (0 : Int32))))] s.heap [] := X
  obtain ⟨H, locs, eH, eL⟩ : ∃ H locs, H = s.heap ∧ locs = ([] : List Loc) := ⟨_, _, rfl, rfl⟩
  rw [← eH, ← eL] at X ⊢
  clear eH eL
  refine lv_iload_n hx hb dX12_listed_0 rfl (lv_at hl 1 rfl) ?_
  refine lv_iload_n hx hb dX12_listed_1 rfl (lv_at hl 2 rfl) ?_
  refine x_cS (own := RX12) (wr := [((a 0), .inr (12, (mF a))), ((a 1), .inl (cI, 4, .inl (fun _ => (0 : Int32))))]) (As := [.int p1, .int p2]) C X hl.1 (c_areWeeksM l D cI cJ cZ cB cO p1 p2) [] [0, 1] ⟨rfl, rfl, by decide, by decide, by decide⟩ k_42_1 k_42_2 k_1_5 k_42_3 (n := 2) (by decide +kernel) ⟨Nat.le_of_ble_eq_true rfl, Nat.le_of_ble_eq_true rfl⟩ rfl rfl (Nat.le_of_ble_eq_true rfl) dX12_listed_2 ⟨Nat.le_of_ble_eq_true rfl, Nat.le_of_ble_eq_true rfl⟩ (fun r_2 u_1 H locs w_3 X => ?_)
  have X : Wd D A s [((a 0), .inr (12, (mF a))), ((a 1), .inl (cI, 4, .inl (fun _ => (0 : Int32))))] H locs := X
  refine W.widen (k := 0) (n := 0) (Nat.le_of_ble_eq_true rfl) (Nat.le_of_ble_eq_true rfl) ?_
  obtain ⟨rfl, fw_3⟩ | ⟨rfl, fw_3⟩ : (r_2 = (1 : Int32) ∧ (0 ≤ (p1).toInt ∧ (p1).toInt ≤ (p2).toInt ∧ (p2).toInt ≤ 39)) ∨ (r_2 = (0 : Int32) ∧ ((p1).toInt < 0 ∨ (p2).toInt < (p1).toInt ∨ 39 < (p2).toInt)) := w_3
  · refine lv_if_eq (tgt := 16) hx hb dX12_listed_5 (by decide) (fun c0 => absurd c0 (by decide)) (fun _ => ?_)
    refine lv_aload_n hx hb dX12_listed_8 rfl (lv_at hl 0 rfl) ?_
    refine lv_iload_n hx hb dX12_listed_9 rfl (lv_at hl 3 rfl) ?_
    refine x_cV (own := RX12) (wr := []) (As := [.int p3]) C X hl.1 (cm_isPlayer l D cI cJ cZ cB cO a p3) [0, 1] [] ⟨rfl, rfl, by decide, by decide, by decide⟩ (qb := 0) rfl rfl k_16_12 k_16_13 k_16_14 k_1_5 k_16_15 (n := 1) (by decide +kernel) ⟨Nat.le_of_ble_eq_true rfl, Nat.le_of_ble_eq_true rfl⟩ rfl rfl (Nat.le_of_ble_eq_true rfl) dX12_listed_10 ⟨Nat.le_of_ble_eq_true rfl, Nat.le_of_ble_eq_true rfl⟩ (fun r_5 u_4 H locs w_6 X => ?_)
    have X : Wd D A s [((a 0), .inr (12, (mF a))), ((a 1), .inl (cI, 4, .inl (fun _ => (0 : Int32))))] H locs := X
    refine W.widen (k := 0) (n := 0) (Nat.le_of_ble_eq_true rfl) (Nat.le_of_ble_eq_true rfl) ?_
    obtain ⟨rfl, fw_6⟩ : r_5 = (0 : Int32) ∧ True := w_6
    refine lv_if_ne (tgt := 18) hx hb dX12_listed_13 (by decide) (fun c0 => absurd (by decide) c0) (fun _ => ?_)
    refine lv_iconst (v := (-1 : Int32)) hx hb dX12_listed_16 (by decide) ?_
    exact x_iret C X hr hlk (v := (-1 : Int32)) (by first | rfl | decide) (()) [] (by decide) rfl (⟨rfl, trivial⟩) (Nat.le_of_ble_eq_true rfl) (Nat.le_of_ble_eq_true rfl) dX12_listed_17
  · refine lv_if_eq (tgt := 16) hx hb dX12_listed_5 (by decide) (fun _ => ?_) (fun c0 => absurd (by decide) c0)
    refine lv_iconst (v := (-1 : Int32)) hx hb dX12_listed_16 (by decide) ?_
    exact x_iret C X hr hlk (v := (-1 : Int32)) (by first | rfl | decide) (()) [] (by decide) rfl (⟨rfl, trivial⟩) (Nat.le_of_ble_eq_true rfl) (Nat.le_of_ble_eq_true rfl) dX12_listed_17
set_option maxHeartbeats 4000000 in
set_option maxRecDepth 100000 in
theorem cm_skill (l : Launch) (D : va_G) (cI cJ cZ cB : ClassId) (cO : ClassId) (a : Nat → Nat) (p1 : Int32) (p2 : Int32) (p3 : Int32) (p4 : Int32) :
    CL l D [(cI, .int), (cJ, .long), (cZ, .boolean), (cB, .byte), (cO, .object "LuckLinks$World")] yX12_skill cX12_skill 5 ({ frames := 1, cells := 0, slots := 0, locals := 21 } : Room) [.ref (a 0), .int p1, .int p2, .int p3, .int p4] [((a 0), .inr (12, (mF a))), ((a 1), .inl (cI, 4, .inl (fun _ => (0 : Int32))))] (fun (r : Int64) (u : Unit) => (r = (-1000000000000 : Int64) ∧ True)) (fun (_ : Unit) => []) := by
  intro sz
  refine body_of (y := yX12_skill) (cc := cX12_skill) (maxL := 5) (ret := (some .long)) (rm := ({ frames := 1, cells := 0, slots := 0, locals := 21 } : Room)) (wc := [((a 0), .inr (12, (mF a))), ((a 1), .inl (cI, 4, .inl (fun _ => (0 : Int32))))]) (tys := [(cI, .int), (cJ, .long), (cZ, .boolean), (cB, .byte), (cO, .object "LuckLinks$World")]) (D := D) (sz := sz) (own := RX12) (av := [.ref (a 0), .int p1, .int p2, .int p3, .int p4]) (Qc := fun A => va_Ql (fun (r : Int64) (u : Unit) => (r = (-1000000000000 : Int64) ∧ True)) (fun u t => Aft D A ((fun (_ : Unit) => []) u) t) A) (by decide) rfl (Nat.le_of_ble_eq_true rfl) (fun p e s m below meth c A ls C hr hlk hin X hl => ?_)
  have hx := C.1
  have hb := C.2.1
  have hown := C.2.2.2.1
  have hts := C.2.2.2.2.1
  have hl : lv_has ls 5 [(0, .ref (a 0)), (1, .int p1), (2, .int p2), (3, .int p3), (4, .int p4)] := hl
  show W p l e _ s m _ below meth c s.heap [] 0 0 (MQ below (va_Ql (fun (r : Int64) (u : Unit) => (r = (-1000000000000 : Int64) ∧ True)) (fun u t => Aft D A ((fun (_ : Unit) => []) u) t) A) ([.ref (a 0), .int p1, .int p2, .int p3, .int p4] : List Value).toArray s 0 0 A) (F0 m 0 ls [])
  have X : Wd D A s [((a 0), .inr (12, (mF a))), ((a 1), .inl (cI, 4, .inl (fun _ => (0 : Int32))))] s.heap [] := X
  obtain ⟨H, locs, eH, eL⟩ : ∃ H locs, H = s.heap ∧ locs = ([] : List Loc) := ⟨_, _, rfl, rfl⟩
  rw [← eH, ← eL] at X ⊢
  clear eH eL
  refine lv_aload_n hx hb dX12_skill_0 rfl (lv_at hl 0 rfl) ?_
  refine lv_iload_n hx hb dX12_skill_1 rfl (lv_at hl 1 rfl) ?_
  refine x_cV (own := RX12) (wr := []) (As := [.int p1]) C X hl.1 (cm_isPlayer l D cI cJ cZ cB cO a p1) [0, 1] [] ⟨rfl, rfl, by decide, by decide, by decide⟩ (qb := 0) rfl rfl k_16_12 k_16_13 k_16_14 k_1_5 k_16_15 (n := 1) (by decide +kernel) ⟨Nat.le_of_ble_eq_true rfl, Nat.le_of_ble_eq_true rfl⟩ rfl rfl (Nat.le_of_ble_eq_true rfl) dX12_skill_2 ⟨Nat.le_of_ble_eq_true rfl, Nat.le_of_ble_eq_true rfl⟩ (fun r_2 u_1 H locs w_3 X => ?_)
  have X : Wd D A s [((a 0), .inr (12, (mF a))), ((a 1), .inl (cI, 4, .inl (fun _ => (0 : Int32))))] H locs := X
  refine W.widen (k := 0) (n := 0) (Nat.le_of_ble_eq_true rfl) (Nat.le_of_ble_eq_true rfl) ?_
  obtain ⟨rfl, fw_3⟩ : r_2 = (0 : Int32) ∧ True := w_3
  refine lv_if_eq (tgt := 32) hx hb dX12_skill_5 (by decide) (fun _ => ?_) (fun c0 => absurd (by decide) c0)
  refine lv_ldc2 (own := RX12) (v := (-1000000000000 : Int64)) hx hb hown (hts _ k_48_10) dX12_skill_32 ?_
  exact x_lret C X hr hlk (v := (-1000000000000 : Int64)) (()) [] (by decide) rfl (⟨rfl, trivial⟩) (Nat.le_of_ble_eq_true rfl) (Nat.le_of_ble_eq_true rfl) dX12_skill_35
set_option maxHeartbeats 4000000 in
set_option maxRecDepth 100000 in
theorem cm_beside (l : Launch) (D : va_G) (cI cJ cZ cB : ClassId) (cO : ClassId) (a : Nat → Nat) (p1 : Int32) (p2 : Int32) :
    CL l D [(cI, .int), (cJ, .long), (cZ, .boolean), (cB, .byte), (cO, .object "LuckLinks$World")] yX12_beside cX12_beside 10 ({ frames := 1, cells := 0, slots := 0, locals := 21 } : Room) [.ref (a 0), .int p1, .int p2] [((a 0), .inr (12, (mF a))), ((a 1), .inl (cI, 4, .inl (fun _ => (0 : Int32))))] (fun (r : Int64) (u : Unit) => (r = (-1000000000000 : Int64) ∧ True)) (fun (_ : Unit) => []) := by
  intro sz
  refine body_of (y := yX12_beside) (cc := cX12_beside) (maxL := 10) (ret := (some .long)) (rm := ({ frames := 1, cells := 0, slots := 0, locals := 21 } : Room)) (wc := [((a 0), .inr (12, (mF a))), ((a 1), .inl (cI, 4, .inl (fun _ => (0 : Int32))))]) (tys := [(cI, .int), (cJ, .long), (cZ, .boolean), (cB, .byte), (cO, .object "LuckLinks$World")]) (D := D) (sz := sz) (own := RX12) (av := [.ref (a 0), .int p1, .int p2]) (Qc := fun A => va_Ql (fun (r : Int64) (u : Unit) => (r = (-1000000000000 : Int64) ∧ True)) (fun u t => Aft D A ((fun (_ : Unit) => []) u) t) A) (by decide) rfl (Nat.le_of_ble_eq_true rfl) (fun p e s m below meth c A ls C hr hlk hin X hl => ?_)
  have hx := C.1
  have hb := C.2.1
  have hown := C.2.2.2.1
  have hts := C.2.2.2.2.1
  have hl : lv_has ls 10 [(0, .ref (a 0)), (1, .int p1), (2, .int p2)] := hl
  show W p l e _ s m _ below meth c s.heap [] 0 0 (MQ below (va_Ql (fun (r : Int64) (u : Unit) => (r = (-1000000000000 : Int64) ∧ True)) (fun u t => Aft D A ((fun (_ : Unit) => []) u) t) A) ([.ref (a 0), .int p1, .int p2] : List Value).toArray s 0 0 A) (F0 m 0 ls [])
  have X : Wd D A s [((a 0), .inr (12, (mF a))), ((a 1), .inl (cI, 4, .inl (fun _ => (0 : Int32))))] s.heap [] := X
  obtain ⟨H, locs, eH, eL⟩ : ∃ H locs, H = s.heap ∧ locs = ([] : List Loc) := ⟨_, _, rfl, rfl⟩
  rw [← eH, ← eL] at X ⊢
  clear eH eL
  refine lv_aload_n hx hb dX12_beside_0 rfl (lv_at hl 0 rfl) ?_
  refine lv_iload_n hx hb dX12_beside_1 rfl (lv_at hl 1 rfl) ?_
  refine x_cV (own := RX12) (wr := []) (As := [.int p1]) C X hl.1 (cm_isPlayer l D cI cJ cZ cB cO a p1) [0, 1] [] ⟨rfl, rfl, by decide, by decide, by decide⟩ (qb := 0) rfl rfl k_16_12 k_16_13 k_16_14 k_1_5 k_16_15 (n := 1) (by decide +kernel) ⟨Nat.le_of_ble_eq_true rfl, Nat.le_of_ble_eq_true rfl⟩ rfl rfl (Nat.le_of_ble_eq_true rfl) dX12_beside_2 ⟨Nat.le_of_ble_eq_true rfl, Nat.le_of_ble_eq_true rfl⟩ (fun r_2 u_1 H locs w_3 X => ?_)
  have X : Wd D A s [((a 0), .inr (12, (mF a))), ((a 1), .inl (cI, 4, .inl (fun _ => (0 : Int32))))] H locs := X
  refine W.widen (k := 0) (n := 0) (Nat.le_of_ble_eq_true rfl) (Nat.le_of_ble_eq_true rfl) ?_
  obtain ⟨rfl, fw_3⟩ : r_2 = (0 : Int32) ∧ True := w_3
  refine lv_if_eq (tgt := 17) hx hb dX12_beside_5 (by decide) (fun _ => ?_) (fun c0 => absurd (by decide) c0)
  refine lv_ldc2 (own := RX12) (v := (-1000000000000 : Int64)) hx hb hown (hts _ k_48_10) dX12_beside_17 ?_
  exact x_lret C X hr hlk (v := (-1000000000000 : Int64)) (()) [] (by decide) rfl (⟨rfl, trivial⟩) (Nat.le_of_ble_eq_true rfl) (Nat.le_of_ble_eq_true rfl) dX12_beside_20
set_option maxHeartbeats 4000000 in
set_option maxRecDepth 100000 in
theorem cm_span (l : Launch) (D : va_G) (cI cJ cZ cB : ClassId) (cO : ClassId) (a : Nat → Nat) (p1 : Int32) (p2 : Int32) (p3 : Int32) (p4 : Int32) :
    CI l D [(cI, .int), (cJ, .long), (cZ, .boolean), (cB, .byte), (cO, .object "LuckLinks$World")] yX12_span cX12_span 13 (some .int) ({ frames := 1, cells := 0, slots := 0, locals := 21 } : Room) [.ref (a 0), .int p1, .int p2, .int p3, .int p4] [((a 0), .inr (12, (mF a))), ((a 1), .inl (cI, 4, .inl (fun _ => (0 : Int32))))] (fun (r : Int32) (u : Unit) => (r = (-1000000 : Int32) ∧ True)) (fun (_ : Unit) => []) := by
  intro sz
  refine body_of (y := yX12_span) (cc := cX12_span) (maxL := 13) (ret := (some .int)) (rm := ({ frames := 1, cells := 0, slots := 0, locals := 21 } : Room)) (wc := [((a 0), .inr (12, (mF a))), ((a 1), .inl (cI, 4, .inl (fun _ => (0 : Int32))))]) (tys := [(cI, .int), (cJ, .long), (cZ, .boolean), (cB, .byte), (cO, .object "LuckLinks$World")]) (D := D) (sz := sz) (own := RX12) (av := [.ref (a 0), .int p1, .int p2, .int p3, .int p4]) (Qc := fun A => va_Qi (fun (r : Int32) (u : Unit) => (r = (-1000000 : Int32) ∧ True)) (fun u t => Aft D A ((fun (_ : Unit) => []) u) t) A) (by decide) rfl (Nat.le_of_ble_eq_true rfl) (fun p e s m below meth c A ls C hr hlk hin X hl => ?_)
  have hx := C.1
  have hb := C.2.1
  have hown := C.2.2.2.1
  have hts := C.2.2.2.2.1
  have hl : lv_has ls 13 [(0, .ref (a 0)), (1, .int p1), (2, .int p2), (3, .int p3), (4, .int p4)] := hl
  show W p l e _ s m _ below meth c s.heap [] 0 0 (MQ below (va_Qi (fun (r : Int32) (u : Unit) => (r = (-1000000 : Int32) ∧ True)) (fun u t => Aft D A ((fun (_ : Unit) => []) u) t) A) ([.ref (a 0), .int p1, .int p2, .int p3, .int p4] : List Value).toArray s 0 0 A) (F0 m 0 ls [])
  have X : Wd D A s [((a 0), .inr (12, (mF a))), ((a 1), .inl (cI, 4, .inl (fun _ => (0 : Int32))))] s.heap [] := X
  obtain ⟨H, locs, eH, eL⟩ : ∃ H locs, H = s.heap ∧ locs = ([] : List Loc) := ⟨_, _, rfl, rfl⟩
  rw [← eH, ← eL] at X ⊢
  clear eH eL
  refine lv_aload_n hx hb dX12_span_0 rfl (lv_at hl 0 rfl) ?_
  refine lv_iload_n hx hb dX12_span_1 rfl (lv_at hl 1 rfl) ?_
  refine x_cV (own := RX12) (wr := []) (As := [.int p1]) C X hl.1 (cm_isPlayer l D cI cJ cZ cB cO a p1) [0, 1] [] ⟨rfl, rfl, by decide, by decide, by decide⟩ (qb := 0) rfl rfl k_16_12 k_16_13 k_16_14 k_1_5 k_16_15 (n := 1) (by decide +kernel) ⟨Nat.le_of_ble_eq_true rfl, Nat.le_of_ble_eq_true rfl⟩ rfl rfl (Nat.le_of_ble_eq_true rfl) dX12_span_2 ⟨Nat.le_of_ble_eq_true rfl, Nat.le_of_ble_eq_true rfl⟩ (fun r_2 u_1 H locs w_3 X => ?_)
  have X : Wd D A s [((a 0), .inr (12, (mF a))), ((a 1), .inl (cI, 4, .inl (fun _ => (0 : Int32))))] H locs := X
  refine W.widen (k := 0) (n := 0) (Nat.le_of_ble_eq_true rfl) (Nat.le_of_ble_eq_true rfl) ?_
  obtain ⟨rfl, fw_3⟩ : r_2 = (0 : Int32) ∧ True := w_3
  refine lv_if_eq (tgt := 32) hx hb dX12_span_5 (by decide) (fun _ => ?_) (fun c0 => absurd (by decide) c0)
  refine lv_ldcw (own := RX12) (v := (-1000000 : Int32)) hx hb hown (hts _ k_49_20) dX12_span_32 ?_
  exact x_iret C X hr hlk (v := (-1000000 : Int32)) (by first | rfl | decide) (()) [] (by decide) rfl (⟨rfl, trivial⟩) (Nat.le_of_ble_eq_true rfl) (Nat.le_of_ble_eq_true rfl) dX12_span_35
set_option maxHeartbeats 4000000 in
set_option maxRecDepth 100000 in
theorem cm_cost (l : Launch) (D : va_G) (cI cJ cZ cB : ClassId) (cO : ClassId) (a : Nat → Nat) (p1 : Int32) (p2 : Int32) (p3 : Int32) (p4 : Int32) (p5 : Int32) :
    CL l D [(cI, .int), (cJ, .long), (cZ, .boolean), (cB, .byte), (cO, .object "LuckLinks$World")] yX12_cost cX12_cost 18 ({ frames := 1, cells := 0, slots := 0, locals := 21 } : Room) [.ref (a 0), .int p1, .int p2, .int p3, .int p4, .int p5] [((a 0), .inr (12, (mF a))), ((a 1), .inl (cI, 4, .inl (fun _ => (0 : Int32))))] (fun (r : Int64) (u : Unit) => (r = (-1000000000 : Int64) ∧ True)) (fun (_ : Unit) => []) := by
  intro sz
  refine body_of (y := yX12_cost) (cc := cX12_cost) (maxL := 18) (ret := (some .long)) (rm := ({ frames := 1, cells := 0, slots := 0, locals := 21 } : Room)) (wc := [((a 0), .inr (12, (mF a))), ((a 1), .inl (cI, 4, .inl (fun _ => (0 : Int32))))]) (tys := [(cI, .int), (cJ, .long), (cZ, .boolean), (cB, .byte), (cO, .object "LuckLinks$World")]) (D := D) (sz := sz) (own := RX12) (av := [.ref (a 0), .int p1, .int p2, .int p3, .int p4, .int p5]) (Qc := fun A => va_Ql (fun (r : Int64) (u : Unit) => (r = (-1000000000 : Int64) ∧ True)) (fun u t => Aft D A ((fun (_ : Unit) => []) u) t) A) (by decide) rfl (Nat.le_of_ble_eq_true rfl) (fun p e s m below meth c A ls C hr hlk hin X hl => ?_)
  have hx := C.1
  have hb := C.2.1
  have hown := C.2.2.2.1
  have hts := C.2.2.2.2.1
  have hl : lv_has ls 18 [(0, .ref (a 0)), (1, .int p1), (2, .int p2), (3, .int p3), (4, .int p4), (5, .int p5)] := hl
  show W p l e _ s m _ below meth c s.heap [] 0 0 (MQ below (va_Ql (fun (r : Int64) (u : Unit) => (r = (-1000000000 : Int64) ∧ True)) (fun u t => Aft D A ((fun (_ : Unit) => []) u) t) A) ([.ref (a 0), .int p1, .int p2, .int p3, .int p4, .int p5] : List Value).toArray s 0 0 A) (F0 m 0 ls [])
  have X : Wd D A s [((a 0), .inr (12, (mF a))), ((a 1), .inl (cI, 4, .inl (fun _ => (0 : Int32))))] s.heap [] := X
  obtain ⟨H, locs, eH, eL⟩ : ∃ H locs, H = s.heap ∧ locs = ([] : List Loc) := ⟨_, _, rfl, rfl⟩
  rw [← eH, ← eL] at X ⊢
  clear eH eL
  refine lv_aload_n hx hb dX12_cost_0 rfl (lv_at hl 0 rfl) ?_
  refine lv_iload_n hx hb dX12_cost_1 rfl (lv_at hl 1 rfl) ?_
  refine x_cV (own := RX12) (wr := []) (As := [.int p1]) C X hl.1 (cm_isPlayer l D cI cJ cZ cB cO a p1) [0, 1] [] ⟨rfl, rfl, by decide, by decide, by decide⟩ (qb := 0) rfl rfl k_16_12 k_16_13 k_16_14 k_1_5 k_16_15 (n := 1) (by decide +kernel) ⟨Nat.le_of_ble_eq_true rfl, Nat.le_of_ble_eq_true rfl⟩ rfl rfl (Nat.le_of_ble_eq_true rfl) dX12_cost_2 ⟨Nat.le_of_ble_eq_true rfl, Nat.le_of_ble_eq_true rfl⟩ (fun r_2 u_1 H locs w_3 X => ?_)
  have X : Wd D A s [((a 0), .inr (12, (mF a))), ((a 1), .inl (cI, 4, .inl (fun _ => (0 : Int32))))] H locs := X
  refine W.widen (k := 0) (n := 0) (Nat.le_of_ble_eq_true rfl) (Nat.le_of_ble_eq_true rfl) ?_
  obtain ⟨rfl, fw_3⟩ : r_2 = (0 : Int32) ∧ True := w_3
  refine lv_if_eq (tgt := 37) hx hb dX12_cost_5 (by decide) (fun _ => ?_) (fun c0 => absurd (by decide) c0)
  refine lv_ldc2 (own := RX12) (v := (-1000000000 : Int64)) hx hb hown (hts _ k_62_7) dX12_cost_37 ?_
  exact x_lret C X hr hlk (v := (-1000000000 : Int64)) (()) [] (by decide) rfl (⟨rfl, trivial⟩) (Nat.le_of_ble_eq_true rfl) (Nat.le_of_ble_eq_true rfl) dX12_cost_40
set_option maxHeartbeats 4000000 in
set_option maxRecDepth 100000 in
theorem cm_pressed (l : Launch) (D : va_G) (cI cJ cZ cB : ClassId) (cO : ClassId) (a : Nat → Nat) (p1 : Int32) (p2 : Int32) :
    CL l D [(cI, .int), (cJ, .long), (cZ, .boolean), (cB, .byte), (cO, .object "LuckLinks$World")] yX12_pressed cX12_pressed 3 ({ frames := 1, cells := 0, slots := 0, locals := 21 } : Room) [.ref (a 0), .int p1, .int p2] [((a 0), .inr (12, (mF a))), ((a 1), .inl (cI, 4, .inl (fun _ => (0 : Int32))))] (fun (r : Int64) (u : Unit) => (r = (-1 : Int64) ∧ True)) (fun (_ : Unit) => []) := by
  intro sz
  refine body_of (y := yX12_pressed) (cc := cX12_pressed) (maxL := 3) (ret := (some .long)) (rm := ({ frames := 1, cells := 0, slots := 0, locals := 21 } : Room)) (wc := [((a 0), .inr (12, (mF a))), ((a 1), .inl (cI, 4, .inl (fun _ => (0 : Int32))))]) (tys := [(cI, .int), (cJ, .long), (cZ, .boolean), (cB, .byte), (cO, .object "LuckLinks$World")]) (D := D) (sz := sz) (own := RX12) (av := [.ref (a 0), .int p1, .int p2]) (Qc := fun A => va_Ql (fun (r : Int64) (u : Unit) => (r = (-1 : Int64) ∧ True)) (fun u t => Aft D A ((fun (_ : Unit) => []) u) t) A) (by decide) rfl (Nat.le_of_ble_eq_true rfl) (fun p e s m below meth c A ls C hr hlk hin X hl => ?_)
  have hx := C.1
  have hb := C.2.1
  have hown := C.2.2.2.1
  have hts := C.2.2.2.2.1
  have hl : lv_has ls 3 [(0, .ref (a 0)), (1, .int p1), (2, .int p2)] := hl
  show W p l e _ s m _ below meth c s.heap [] 0 0 (MQ below (va_Ql (fun (r : Int64) (u : Unit) => (r = (-1 : Int64) ∧ True)) (fun u t => Aft D A ((fun (_ : Unit) => []) u) t) A) ([.ref (a 0), .int p1, .int p2] : List Value).toArray s 0 0 A) (F0 m 0 ls [])
  have X : Wd D A s [((a 0), .inr (12, (mF a))), ((a 1), .inl (cI, 4, .inl (fun _ => (0 : Int32))))] s.heap [] := X
  obtain ⟨H, locs, eH, eL⟩ : ∃ H locs, H = s.heap ∧ locs = ([] : List Loc) := ⟨_, _, rfl, rfl⟩
  rw [← eH, ← eL] at X ⊢
  clear eH eL
  refine lv_aload_n hx hb dX12_pressed_0 rfl (lv_at hl 0 rfl) ?_
  refine lv_iload_n hx hb dX12_pressed_1 rfl (lv_at hl 1 rfl) ?_
  refine x_cV (own := RX12) (wr := []) (As := [.int p1]) C X hl.1 (cm_isPlayer l D cI cJ cZ cB cO a p1) [0, 1] [] ⟨rfl, rfl, by decide, by decide, by decide⟩ (qb := 0) rfl rfl k_16_12 k_16_13 k_16_14 k_1_5 k_16_15 (n := 1) (by decide +kernel) ⟨Nat.le_of_ble_eq_true rfl, Nat.le_of_ble_eq_true rfl⟩ rfl rfl (Nat.le_of_ble_eq_true rfl) dX12_pressed_2 ⟨Nat.le_of_ble_eq_true rfl, Nat.le_of_ble_eq_true rfl⟩ (fun r_2 u_1 H locs w_3 X => ?_)
  have X : Wd D A s [((a 0), .inr (12, (mF a))), ((a 1), .inl (cI, 4, .inl (fun _ => (0 : Int32))))] H locs := X
  refine W.widen (k := 0) (n := 0) (Nat.le_of_ble_eq_true rfl) (Nat.le_of_ble_eq_true rfl) ?_
  obtain ⟨rfl, fw_3⟩ : r_2 = (0 : Int32) ∧ True := w_3
  refine lv_if_eq (tgt := 17) hx hb dX12_pressed_5 (by decide) (fun _ => ?_) (fun c0 => absurd (by decide) c0)
  refine lv_ldc2 (own := RX12) (v := (-1 : Int64)) hx hb hown (hts _ k_26_7) dX12_pressed_17 ?_
  exact x_lret C X hr hlk (v := (-1 : Int64)) (()) [] (by decide) rfl (⟨rfl, trivial⟩) (Nat.le_of_ble_eq_true rfl) (Nat.le_of_ble_eq_true rfl) dX12_pressed_20
set_option maxHeartbeats 4000000 in
set_option maxRecDepth 100000 in
theorem cm_cut (l : Launch) (D : va_G) (cI cJ cZ cB : ClassId) (cO : ClassId) (a : Nat → Nat) (p1 : Int32) (p2 : Int32) (p3 : Int32) :
    CI l D [(cI, .int), (cJ, .long), (cZ, .boolean), (cB, .byte), (cO, .object "LuckLinks$World")] yX12_cut cX12_cut 10 (some .int) ({ frames := 1, cells := 0, slots := 0, locals := 22 } : Room) [.ref (a 0), .int p1, .int p2, .int p3] [((a 0), .inr (12, (mF a))), ((a 19), .inl (cI, 6, .inl (fun _ => (0 : Int32))))] (fun (r : Int32) (u : Unit) => (r = (-1 : Int32) ∧ True)) (fun (_ : Unit) => []) := by
  intro sz
  refine body_of (y := yX12_cut) (cc := cX12_cut) (maxL := 10) (ret := (some .int)) (rm := ({ frames := 1, cells := 0, slots := 0, locals := 22 } : Room)) (wc := [((a 0), .inr (12, (mF a))), ((a 19), .inl (cI, 6, .inl (fun _ => (0 : Int32))))]) (tys := [(cI, .int), (cJ, .long), (cZ, .boolean), (cB, .byte), (cO, .object "LuckLinks$World")]) (D := D) (sz := sz) (own := RX12) (av := [.ref (a 0), .int p1, .int p2, .int p3]) (Qc := fun A => va_Qi (fun (r : Int32) (u : Unit) => (r = (-1 : Int32) ∧ True)) (fun u t => Aft D A ((fun (_ : Unit) => []) u) t) A) (by decide) rfl (Nat.le_of_ble_eq_true rfl) (fun p e s m below meth c A ls C hr hlk hin X hl => ?_)
  have hx := C.1
  have hb := C.2.1
  have hown := C.2.2.2.1
  have hts := C.2.2.2.2.1
  have hl : lv_has ls 10 [(0, .ref (a 0)), (1, .int p1), (2, .int p2), (3, .int p3)] := hl
  show W p l e _ s m _ below meth c s.heap [] 0 0 (MQ below (va_Qi (fun (r : Int32) (u : Unit) => (r = (-1 : Int32) ∧ True)) (fun u t => Aft D A ((fun (_ : Unit) => []) u) t) A) ([.ref (a 0), .int p1, .int p2, .int p3] : List Value).toArray s 0 0 A) (F0 m 0 ls [])
  have X : Wd D A s [((a 0), .inr (12, (mF a))), ((a 19), .inl (cI, 6, .inl (fun _ => (0 : Int32))))] s.heap [] := X
  obtain ⟨H, locs, eH, eL⟩ : ∃ H locs, H = s.heap ∧ locs = ([] : List Loc) := ⟨_, _, rfl, rfl⟩
  rw [← eH, ← eL] at X ⊢
  clear eH eL
  refine lv_iload_n hx hb dX12_cut_0 rfl (lv_at hl 1 rfl) ?_
  refine x_cS (own := RX12) (wr := [((a 0), .inr (12, (mF a))), ((a 19), .inl (cI, 6, .inl (fun _ => (0 : Int32))))]) (As := [.int p1]) C X hl.1 (c_isWeekM l D cI cJ cZ cB cO p1) [] [0, 1] ⟨rfl, rfl, by decide, by decide, by decide⟩ k_14_11 k_14_12 k_1_5 k_14_13 (n := 1) (by decide +kernel) ⟨Nat.le_of_ble_eq_true rfl, Nat.le_of_ble_eq_true rfl⟩ rfl rfl (Nat.le_of_ble_eq_true rfl) dX12_cut_1 ⟨Nat.le_of_ble_eq_true rfl, Nat.le_of_ble_eq_true rfl⟩ (fun r_2 u_1 H locs w_3 X => ?_)
  have X : Wd D A s [((a 0), .inr (12, (mF a))), ((a 19), .inl (cI, 6, .inl (fun _ => (0 : Int32))))] H locs := X
  refine W.widen (k := 0) (n := 0) (Nat.le_of_ble_eq_true rfl) (Nat.le_of_ble_eq_true rfl) ?_
  obtain ⟨rfl, fw_3⟩ | ⟨rfl, fw_3⟩ : (r_2 = (1 : Int32) ∧ (0 ≤ (p1).toInt ∧ (p1).toInt ≤ 39)) ∨ (r_2 = (0 : Int32) ∧ ((p1).toInt < 0 ∨ 39 < (p1).toInt)) := w_3
  · refine lv_if_eq (tgt := 34) hx hb dX12_cut_4 (by decide) (fun c0 => absurd c0 (by decide)) (fun _ => ?_)
    refine lv_iload_n hx hb dX12_cut_7 rfl (lv_at hl 2 rfl) ?_
    refine lv_iconst (v := (0 : Int32)) hx hb dX12_cut_8 (by decide) ?_
    refine lv_iconst (v := (2 : Int32)) hx hb dX12_cut_9 (by decide) ?_
    refine x_cS (own := RX12) (wr := [((a 0), .inr (12, (mF a))), ((a 19), .inl (cI, 6, .inl (fun _ => (0 : Int32))))]) (As := [.int p2, .int (0 : Int32), .int (2 : Int32)]) C X hl.1 (c_within l D cI cJ cZ cB cO p2 (0 : Int32) (2 : Int32)) [] [0, 1] ⟨rfl, rfl, by decide, by decide, by decide⟩ k_12_23 k_13_0 k_1_5 k_13_1 (n := 3) (by decide +kernel) ⟨Nat.le_of_ble_eq_true rfl, Nat.le_of_ble_eq_true rfl⟩ rfl rfl (Nat.le_of_ble_eq_true rfl) dX12_cut_10 ⟨Nat.le_of_ble_eq_true rfl, Nat.le_of_ble_eq_true rfl⟩ (fun r_5 u_4 H locs w_6 X => ?_)
    have X : Wd D A s [((a 0), .inr (12, (mF a))), ((a 19), .inl (cI, 6, .inl (fun _ => (0 : Int32))))] H locs := X
    refine W.widen (k := 0) (n := 0) (Nat.le_of_ble_eq_true rfl) (Nat.le_of_ble_eq_true rfl) ?_
    obtain ⟨rfl, fw_6⟩ | ⟨rfl, fw_6⟩ : (r_5 = (1 : Int32) ∧ ((0 : Int) ≤ (p2).toInt ∧ (p2).toInt ≤ (2 : Int))) ∨ (r_5 = (0 : Int32) ∧ ((p2).toInt < (0 : Int) ∨ (2 : Int) < (p2).toInt)) := w_6
    · refine lv_if_eq (tgt := 34) hx hb dX12_cut_13 (by decide) (fun c0 => absurd c0 (by decide)) (fun _ => ?_)
      refine lv_iload_n hx hb dX12_cut_16 rfl (lv_at hl 3 rfl) ?_
      refine lv_iconst (v := (0 : Int32)) hx hb dX12_cut_17 (by decide) ?_
      refine lv_iconst (v := (3 : Int32)) hx hb dX12_cut_18 (by decide) ?_
      refine x_cS (own := RX12) (wr := [((a 0), .inr (12, (mF a))), ((a 19), .inl (cI, 6, .inl (fun _ => (0 : Int32))))]) (As := [.int p3, .int (0 : Int32), .int (3 : Int32)]) C X hl.1 (c_within l D cI cJ cZ cB cO p3 (0 : Int32) (3 : Int32)) [] [0, 1] ⟨rfl, rfl, by decide, by decide, by decide⟩ k_12_23 k_13_0 k_1_5 k_13_1 (n := 3) (by decide +kernel) ⟨Nat.le_of_ble_eq_true rfl, Nat.le_of_ble_eq_true rfl⟩ rfl rfl (Nat.le_of_ble_eq_true rfl) dX12_cut_19 ⟨Nat.le_of_ble_eq_true rfl, Nat.le_of_ble_eq_true rfl⟩ (fun r_8 u_7 H locs w_9 X => ?_)
      have X : Wd D A s [((a 0), .inr (12, (mF a))), ((a 19), .inl (cI, 6, .inl (fun _ => (0 : Int32))))] H locs := X
      refine W.widen (k := 0) (n := 0) (Nat.le_of_ble_eq_true rfl) (Nat.le_of_ble_eq_true rfl) ?_
      obtain ⟨rfl, fw_9⟩ | ⟨rfl, fw_9⟩ : (r_8 = (1 : Int32) ∧ ((0 : Int) ≤ (p3).toInt ∧ (p3).toInt ≤ (3 : Int))) ∨ (r_8 = (0 : Int32) ∧ ((p3).toInt < (0 : Int) ∨ (3 : Int) < (p3).toInt)) := w_9
      · refine lv_if_eq (tgt := 34) hx hb dX12_cut_22 (by decide) (fun c0 => absurd c0 (by decide)) (fun _ => ?_)
        refine lv_aload_n hx hb dX12_cut_25 rfl (lv_at hl 0 rfl) ?_
        refine x_get (own := RX12) (T := TX12) C X 0 rfl rfl 19 (by decide) k_10_11 rfl rfl (v := .ref (a 19)) rfl dX12_cut_26 ?_
        refine lv_iload_n hx hb dX12_cut_29 rfl (lv_at hl 2 rfl) ?_
        refine x_iald C X 1 0 rfl rfl (j := (p2).toInt.toNat) rfl (vp_in_iff.mpr ⟨by omega, by omega⟩) (v := (0 : Int32)) (rfl) dX12_cut_30 ?_
        refine lv_if_ne (tgt := 36) hx hb dX12_cut_31 (by decide) (fun c0 => absurd (by decide) c0) (fun _ => ?_)
        refine lv_iconst (v := (-1 : Int32)) hx hb dX12_cut_34 (by decide) ?_
        exact x_iret C X hr hlk (v := (-1 : Int32)) (by first | rfl | decide) (()) [] (by decide) rfl (⟨rfl, trivial⟩) (Nat.le_of_ble_eq_true rfl) (Nat.le_of_ble_eq_true rfl) dX12_cut_35
      · refine lv_if_eq (tgt := 34) hx hb dX12_cut_22 (by decide) (fun _ => ?_) (fun c0 => absurd (by decide) c0)
        refine lv_iconst (v := (-1 : Int32)) hx hb dX12_cut_34 (by decide) ?_
        exact x_iret C X hr hlk (v := (-1 : Int32)) (by first | rfl | decide) (()) [] (by decide) rfl (⟨rfl, trivial⟩) (Nat.le_of_ble_eq_true rfl) (Nat.le_of_ble_eq_true rfl) dX12_cut_35
    · refine lv_if_eq (tgt := 34) hx hb dX12_cut_13 (by decide) (fun _ => ?_) (fun c0 => absurd (by decide) c0)
      refine lv_iconst (v := (-1 : Int32)) hx hb dX12_cut_34 (by decide) ?_
      exact x_iret C X hr hlk (v := (-1 : Int32)) (by first | rfl | decide) (()) [] (by decide) rfl (⟨rfl, trivial⟩) (Nat.le_of_ble_eq_true rfl) (Nat.le_of_ble_eq_true rfl) dX12_cut_35
  · refine lv_if_eq (tgt := 34) hx hb dX12_cut_4 (by decide) (fun _ => ?_) (fun c0 => absurd (by decide) c0)
    refine lv_iconst (v := (-1 : Int32)) hx hb dX12_cut_34 (by decide) ?_
    exact x_iret C X hr hlk (v := (-1 : Int32)) (by first | rfl | decide) (()) [] (by decide) rfl (⟨rfl, trivial⟩) (Nat.le_of_ble_eq_true rfl) (Nat.le_of_ble_eq_true rfl) dX12_cut_35
