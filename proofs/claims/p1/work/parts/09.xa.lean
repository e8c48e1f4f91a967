theorem k_12_1 : Cond.fieldLink RX11 114 "LuckLinks$World" "players" "I" ∈ wsL_law := mr_12 _ (List.mem_of_getElem? (i := 1) rfl)
theorem k_12_10 : Cond.selects RX11 yX11_refuse yX11_refuse ∈ wsL_law := mr_12 _ (List.mem_of_getElem? (i := 10) rfl)
theorem k_12_11 : Cond.code yX11_refuse cX11_refuse 2 (some .int) ∈ wsL_law := mr_12 _ (List.mem_of_getElem? (i := 11) rfl)
theorem k_12_12 : Cond.methodLink RX11 117 yX10_addPlayer ∈ wsL_law := mr_12 _ (List.mem_of_getElem? (i := 12) rfl)
theorem k_12_13 : Cond.instanceMethod yX10_addPlayer ∈ wsL_law := mr_12 _ (List.mem_of_getElem? (i := 13) rfl)
theorem k_12_14 : Cond.selects RX10 yX10_addPlayer yX10_addPlayer ∈ wsL_law := mr_12 _ (List.mem_of_getElem? (i := 14) rfl)
theorem k_12_15 : Cond.code yX10_addPlayer cX10_addPlayer 5 (some .int) ∈ wsL_law := mr_12 _ (List.mem_of_getElem? (i := 15) rfl)
theorem k_12_2 : Cond.methodLink RX11 106 yX11_areBetween ∈ wsL_law := mr_12 _ (List.mem_of_getElem? (i := 2) rfl)
theorem k_12_3 : Cond.static yX11_areBetween ∈ wsL_law := mr_12 _ (List.mem_of_getElem? (i := 3) rfl)
theorem k_12_4 : Cond.code yX11_areBetween cX11_areBetween 6 (some .boolean) ∈ wsL_law := mr_12 _ (List.mem_of_getElem? (i := 4) rfl)
theorem k_12_8 : Cond.methodLink RX11 110 yX11_refuse ∈ wsL_law := mr_12 _ (List.mem_of_getElem? (i := 8) rfl)
theorem k_12_9 : Cond.instanceMethod yX11_refuse ∈ wsL_law := mr_12 _ (List.mem_of_getElem? (i := 9) rfl)
theorem k_13_10 : Cond.fieldLink RX11 121 "LuckLinks$World" "courses" "I" ∈ wsL_law := mr_13 _ (List.mem_of_getElem? (i := 10) rfl)
theorem k_13_11 : Cond.methodLink RX11 124 yX10_addCourse ∈ wsL_law := mr_13 _ (List.mem_of_getElem? (i := 11) rfl)
theorem k_13_12 : Cond.instanceMethod yX10_addCourse ∈ wsL_law := mr_13 _ (List.mem_of_getElem? (i := 12) rfl)
theorem k_13_13 : Cond.selects RX10 yX10_addCourse yX10_addCourse ∈ wsL_law := mr_13 _ (List.mem_of_getElem? (i := 13) rfl)
theorem k_13_14 : Cond.code yX10_addCourse cX10_addCourse 5 (some .int) ∈ wsL_law := mr_13 _ (List.mem_of_getElem? (i := 14) rfl)
theorem k_14_0 : Cond.methodLink RX11 127 yX11_isWeek ∈ wsL_law := mr_14 _ (List.mem_of_getElem? (i := 0) rfl)
theorem k_15_0 : Cond.methodLink RX11 141 yX10_isFree ∈ wsL_law := mr_15 _ (List.mem_of_getElem? (i := 0) rfl)
theorem k_15_1 : Cond.instanceMethod yX10_isFree ∈ wsL_law := mr_15 _ (List.mem_of_getElem? (i := 1) rfl)
theorem k_15_2 : Cond.selects RX10 yX10_isFree yX10_isFree ∈ wsL_law := mr_15 _ (List.mem_of_getElem? (i := 2) rfl)
theorem k_15_3 : Cond.code yX10_isFree cX10_isFree 5 (some .boolean) ∈ wsL_law := mr_15 _ (List.mem_of_getElem? (i := 3) rfl)
theorem k_15_4 : Cond.methodLink RX10 70 yX10_isPlayer ∈ wsL_law := mr_15 _ (List.mem_of_getElem? (i := 4) rfl)
theorem k_15_5 : Cond.instanceMethod yX10_isPlayer ∈ wsL_law := mr_15 _ (List.mem_of_getElem? (i := 5) rfl)
theorem k_15_6 : Cond.selects RX10 yX10_isPlayer yX10_isPlayer ∈ wsL_law := mr_15 _ (List.mem_of_getElem? (i := 6) rfl)
theorem k_15_7 : Cond.code yX10_isPlayer cX10_isPlayer 2 (some .boolean) ∈ wsL_law := mr_15 _ (List.mem_of_getElem? (i := 7) rfl)
theorem k_17_16 : Cond.constant RX11 158 (999999999) ∈ wsL_law := mr_17 _ (List.mem_of_getElem? (i := 16) rfl)
theorem k_17_17 : Cond.fieldLink RX11 159 "LuckLinks$World" "z" "J" ∈ wsL_law := mr_17 _ (List.mem_of_getElem? (i := 17) rfl)
theorem k_17_3 : Cond.methodLink RX11 151 yX10_isPlayer ∈ wsL_law := mr_17 _ (List.mem_of_getElem? (i := 3) rfl)
theorem k_41_2 : Cond.methodLink RX11 227 yX11_areWeeks ∈ wsL_law := mr_41 _ (List.mem_of_getElem? (i := 2) rfl)
theorem k_41_3 : Cond.static yX11_areWeeks ∈ wsL_law := mr_41 _ (List.mem_of_getElem? (i := 3) rfl)
theorem k_41_4 : Cond.code yX11_areWeeks cX11_areWeeks 2 (some .boolean) ∈ wsL_law := mr_41 _ (List.mem_of_getElem? (i := 4) rfl)
theorem dX10_isFree_0 : decode cX10_isFree 0 = .ok (.aload_n 0, 1) := by decide +kernel
theorem dX10_isFree_1 : decode cX10_isFree 1 = .ok (.iload_n 1, 1) := by decide +kernel
theorem dX10_isFree_2 : decode cX10_isFree 2 = .ok (.invokevirtual 70, 3) := by decide +kernel
theorem dX10_isFree_5 : decode cX10_isFree 5 = .ok (.ifCond .eq 22, 3) := by decide +kernel
theorem dX10_isFree_27 : decode cX10_isFree 27 = .ok (.iconst 0, 1) := by decide +kernel
theorem dX10_isFree_28 : decode cX10_isFree 28 = .ok (.ireturn, 1) := by decide +kernel
theorem dX11_areBetween_0 : decode cX11_areBetween 0 = .ok (.iload_n 0, 1) := by decide +kernel
theorem dX11_areBetween_1 : decode cX11_areBetween 1 = .ok (.iload 4, 2) := by decide +kernel
theorem dX11_areBetween_3 : decode cX11_areBetween 3 = .ok (.iload 5, 2) := by decide +kernel
theorem dX11_areBetween_5 : decode cX11_areBetween 5 = .ok (.invokestatic 131, 3) := by decide +kernel
theorem dX11_areBetween_8 : decode cX11_areBetween 8 = .ok (.ifCond .eq 40, 3) := by decide +kernel
theorem dX11_areBetween_11 : decode cX11_areBetween 11 = .ok (.iload_n 1, 1) := by decide +kernel
theorem dX11_areBetween_12 : decode cX11_areBetween 12 = .ok (.iload 4, 2) := by decide +kernel
theorem dX11_areBetween_14 : decode cX11_areBetween 14 = .ok (.iload 5, 2) := by decide +kernel
theorem dX11_areBetween_16 : decode cX11_areBetween 16 = .ok (.invokestatic 131, 3) := by decide +kernel
theorem dX11_areBetween_19 : decode cX11_areBetween 19 = .ok (.ifCond .eq 29, 3) := by decide +kernel
theorem dX11_areBetween_22 : decode cX11_areBetween 22 = .ok (.iload_n 2, 1) := by decide +kernel
theorem dX11_areBetween_23 : decode cX11_areBetween 23 = .ok (.iload 4, 2) := by decide +kernel
theorem dX11_areBetween_25 : decode cX11_areBetween 25 = .ok (.iload 5, 2) := by decide +kernel
theorem dX11_areBetween_27 : decode cX11_areBetween 27 = .ok (.invokestatic 131, 3) := by decide +kernel
theorem dX11_areBetween_30 : decode cX11_areBetween 30 = .ok (.ifCond .eq 18, 3) := by decide +kernel
theorem dX11_areBetween_33 : decode cX11_areBetween 33 = .ok (.iload_n 3, 1) := by decide +kernel
theorem dX11_areBetween_34 : decode cX11_areBetween 34 = .ok (.iload 4, 2) := by decide +kernel
theorem dX11_areBetween_36 : decode cX11_areBetween 36 = .ok (.iload 5, 2) := by decide +kernel
theorem dX11_areBetween_38 : decode cX11_areBetween 38 = .ok (.invokestatic 131, 3) := by decide +kernel
theorem dX11_areBetween_41 : decode cX11_areBetween 41 = .ok (.ifCond .eq 7, 3) := by decide +kernel
theorem dX11_areBetween_44 : decode cX11_areBetween 44 = .ok (.iconst 1, 1) := by decide +kernel
theorem dX11_areBetween_45 : decode cX11_areBetween 45 = .ok (.goto 4, 3) := by decide +kernel
theorem dX11_areBetween_48 : decode cX11_areBetween 48 = .ok (.iconst 0, 1) := by decide +kernel
theorem dX11_areBetween_49 : decode cX11_areBetween 49 = .ok (.ireturn, 1) := by decide +kernel
theorem dX11_areHalves_0 : decode cX11_areHalves 0 = .ok (.iload_n 0, 1) := by decide +kernel
theorem dX11_areHalves_1 : decode cX11_areHalves 1 = .ok (.iload_n 2, 1) := by decide +kernel
theorem dX11_areHalves_2 : decode cX11_areHalves 2 = .ok (.invokestatic 227, 3) := by decide +kernel
theorem dX11_areHalves_5 : decode cX11_areHalves 5 = .ok (.ifCond .eq 17, 3) := by decide +kernel
theorem dX11_areHalves_8 : decode cX11_areHalves 8 = .ok (.iload_n 0, 1) := by decide +kernel
theorem dX11_areHalves_9 : decode cX11_areHalves 9 = .ok (.iload_n 1, 1) := by decide +kernel
theorem dX11_areHalves_10 : decode cX11_areHalves 10 = .ok (.if_icmp .ge 12, 3) := by decide +kernel
theorem dX11_areHalves_13 : decode cX11_areHalves 13 = .ok (.iload_n 1, 1) := by decide +kernel
theorem dX11_areHalves_14 : decode cX11_areHalves 14 = .ok (.iload_n 2, 1) := by decide +kernel
theorem dX11_areHalves_15 : decode cX11_areHalves 15 = .ok (.if_icmp .gt 7, 3) := by decide +kernel
theorem dX11_areHalves_18 : decode cX11_areHalves 18 = .ok (.iconst 1, 1) := by decide +kernel
theorem dX11_areHalves_19 : decode cX11_areHalves 19 = .ok (.goto 4, 3) := by decide +kernel
theorem dX11_areHalves_22 : decode cX11_areHalves 22 = .ok (.iconst 0, 1) := by decide +kernel
theorem dX11_areHalves_23 : decode cX11_areHalves 23 = .ok (.ireturn, 1) := by decide +kernel
theorem dX11_areWeeks_0 : decode cX11_areWeeks 0 = .ok (.iload_n 0, 1) := by decide +kernel
theorem dX11_areWeeks_1 : decode cX11_areWeeks 1 = .ok (.invokestatic 127, 3) := by decide +kernel
theorem dX11_areWeeks_4 : decode cX11_areWeeks 4 = .ok (.ifCond .eq 19, 3) := by decide +kernel
theorem dX11_areWeeks_7 : decode cX11_areWeeks 7 = .ok (.iload_n 1, 1) := by decide +kernel
theorem dX11_areWeeks_8 : decode cX11_areWeeks 8 = .ok (.invokestatic 127, 3) := by decide +kernel
theorem dX11_areWeeks_11 : decode cX11_areWeeks 11 = .ok (.ifCond .eq 12, 3) := by decide +kernel
theorem dX11_areWeeks_14 : decode cX11_areWeeks 14 = .ok (.iload_n 0, 1) := by decide +kernel
theorem dX11_areWeeks_15 : decode cX11_areWeeks 15 = .ok (.iload_n 1, 1) := by decide +kernel
theorem dX11_areWeeks_16 : decode cX11_areWeeks 16 = .ok (.if_icmp .gt 7, 3) := by decide +kernel
theorem dX11_areWeeks_19 : decode cX11_areWeeks 19 = .ok (.iconst 1, 1) := by decide +kernel
theorem dX11_areWeeks_20 : decode cX11_areWeeks 20 = .ok (.goto 4, 3) := by decide +kernel
theorem dX11_areWeeks_23 : decode cX11_areWeeks 23 = .ok (.iconst 0, 1) := by decide +kernel
theorem dX11_areWeeks_24 : decode cX11_areWeeks 24 = .ok (.ireturn, 1) := by decide +kernel
theorem dX11_bet_0 : decode cX11_bet 0 = .ok (.aload_n 0, 1) := by decide +kernel
theorem dX11_bet_1 : decode cX11_bet 1 = .ok (.getfield 10, 3) := by decide +kernel
theorem dX11_bet_4 : decode cX11_bet 4 = .ok (.iload_n 1, 1) := by decide +kernel
theorem dX11_bet_5 : decode cX11_bet 5 = .ok (.invokevirtual 151, 3) := by decide +kernel
theorem dX11_bet_8 : decode cX11_bet 8 = .ok (.ifCond .eq 23, 3) := by decide +kernel
theorem dX11_bet_31 : decode cX11_bet 31 = .ok (.aload_n 0, 1) := by decide +kernel
theorem dX11_bet_32 : decode cX11_bet 32 = .ok (.iconst 0, 1) := by decide +kernel
theorem dX11_bet_33 : decode cX11_bet 33 = .ok (.invokevirtual 110, 3) := by decide +kernel
theorem dX11_bet_36 : decode cX11_bet 36 = .ok (.pop, 1) := by decide +kernel
theorem dX11_bet_37 : decode cX11_bet 37 = .ok (.iconst 0, 1) := by decide +kernel
theorem dX11_bet_38 : decode cX11_bet 38 = .ok (.ireturn, 1) := by decide +kernel
theorem dX11_course_0 : decode cX11_course 0 = .ok (.iload_n 1, 1) := by decide +kernel
theorem dX11_course_1 : decode cX11_course 1 = .ok (.iload_n 2, 1) := by decide +kernel
theorem dX11_course_2 : decode cX11_course 2 = .ok (.iload_n 3, 1) := by decide +kernel
theorem dX11_course_3 : decode cX11_course 3 = .ok (.iload 4, 2) := by decide +kernel
theorem dX11_course_5 : decode cX11_course 5 = .ok (.iconst 0, 1) := by decide +kernel
theorem dX11_course_6 : decode cX11_course 6 = .ok (.bipush 60, 2) := by decide +kernel
theorem dX11_course_8 : decode cX11_course 8 = .ok (.invokestatic 106, 3) := by decide +kernel
theorem dX11_course_11 : decode cX11_course 11 = .ok (.ifCond .ne 9, 3) := by decide +kernel
theorem dX11_course_14 : decode cX11_course 14 = .ok (.aload_n 0, 1) := by decide +kernel
theorem dX11_course_15 : decode cX11_course 15 = .ok (.iconst 0, 1) := by decide +kernel
theorem dX11_course_16 : decode cX11_course 16 = .ok (.invokevirtual 110, 3) := by decide +kernel
theorem dX11_course_19 : decode cX11_course 19 = .ok (.ireturn, 1) := by decide +kernel
theorem dX11_course_20 : decode cX11_course 20 = .ok (.aload_n 0, 1) := by decide +kernel
theorem dX11_course_21 : decode cX11_course 21 = .ok (.getfield 10, 3) := by decide +kernel
theorem dX11_course_24 : decode cX11_course 24 = .ok (.getfield 121, 3) := by decide +kernel
theorem dX11_course_27 : decode cX11_course 27 = .ok (.bipush 6, 2) := by decide +kernel
theorem dX11_course_29 : decode cX11_course 29 = .ok (.if_icmp .lt 9, 3) := by decide +kernel
theorem dX11_course_38 : decode cX11_course 38 = .ok (.aload_n 0, 1) := by decide +kernel
theorem dX11_course_39 : decode cX11_course 39 = .ok (.getfield 10, 3) := by decide +kernel
theorem dX11_course_42 : decode cX11_course 42 = .ok (.iload_n 1, 1) := by decide +kernel
theorem dX11_course_43 : decode cX11_course 43 = .ok (.iload_n 2, 1) := by decide +kernel
theorem dX11_course_44 : decode cX11_course 44 = .ok (.iload_n 3, 1) := by decide +kernel
theorem dX11_course_45 : decode cX11_course 45 = .ok (.iload 4, 2) := by decide +kernel
theorem dX11_course_47 : decode cX11_course 47 = .ok (.invokevirtual 124, 3) := by decide +kernel
theorem dX11_course_50 : decode cX11_course 50 = .ok (.ireturn, 1) := by decide +kernel
theorem dX11_isPart_0 : decode cX11_isPart 0 = .ok (.iload_n 0, 1) := by decide +kernel
theorem dX11_isPart_1 : decode cX11_isPart 1 = .ok (.iconst (-1), 1) := by decide +kernel
theorem dX11_isPart_2 : decode cX11_isPart 2 = .ok (.iconst 3, 1) := by decide +kernel
theorem dX11_isPart_3 : decode cX11_isPart 3 = .ok (.invokestatic 131, 3) := by decide +kernel
theorem dX11_isPart_6 : decode cX11_isPart 6 = .ok (.ireturn, 1) := by decide +kernel
theorem dX11_player_0 : decode cX11_player 0 = .ok (.iload_n 1, 1) := by decide +kernel
theorem dX11_player_1 : decode cX11_player 1 = .ok (.iload_n 2, 1) := by decide +kernel
theorem dX11_player_2 : decode cX11_player 2 = .ok (.iload_n 3, 1) := by decide +kernel
theorem dX11_player_3 : decode cX11_player 3 = .ok (.iload 4, 2) := by decide +kernel
theorem dX11_player_5 : decode cX11_player 5 = .ok (.bipush (-20), 2) := by decide +kernel
theorem dX11_player_7 : decode cX11_player 7 = .ok (.bipush 20, 2) := by decide +kernel
theorem dX11_player_9 : decode cX11_player 9 = .ok (.invokestatic 106, 3) := by decide +kernel
theorem dX11_player_12 : decode cX11_player 12 = .ok (.ifCond .ne 9, 3) := by decide +kernel
theorem dX11_player_15 : decode cX11_player 15 = .ok (.aload_n 0, 1) := by decide +kernel
theorem dX11_player_16 : decode cX11_player 16 = .ok (.iconst 0, 1) := by decide +kernel
theorem dX11_player_17 : decode cX11_player 17 = .ok (.invokevirtual 110, 3) := by decide +kernel
theorem dX11_player_20 : decode cX11_player 20 = .ok (.ireturn, 1) := by decide +kernel
theorem dX11_player_21 : decode cX11_player 21 = .ok (.aload_n 0, 1) := by decide +kernel
theorem dX11_player_22 : decode cX11_player 22 = .ok (.getfield 10, 3) := by decide +kernel
theorem dX11_player_25 : decode cX11_player 25 = .ok (.getfield 114, 3) := by decide +kernel
theorem dX11_player_28 : decode cX11_player 28 = .ok (.bipush 20, 2) := by decide +kernel
theorem dX11_player_30 : decode cX11_player 30 = .ok (.if_icmp .lt 9, 3) := by decide +kernel
theorem dX11_player_39 : decode cX11_player 39 = .ok (.aload_n 0, 1) := by decide +kernel
theorem dX11_player_40 : decode cX11_player 40 = .ok (.getfield 10, 3) := by decide +kernel
theorem dX11_player_43 : decode cX11_player 43 = .ok (.iload_n 1, 1) := by decide +kernel
theorem dX11_player_44 : decode cX11_player 44 = .ok (.iload_n 2, 1) := by decide +kernel
theorem dX11_player_45 : decode cX11_player 45 = .ok (.iload_n 3, 1) := by decide +kernel
theorem dX11_player_46 : decode cX11_player 46 = .ok (.iload 4, 2) := by decide +kernel
theorem dX11_player_48 : decode cX11_player 48 = .ok (.invokevirtual 117, 3) := by decide +kernel
theorem dX11_player_51 : decode cX11_player 51 = .ok (.ireturn, 1) := by decide +kernel
theorem dX11_refuse_0 : decode cX11_refuse 0 = .ok (.iload_n 1, 1) := by decide +kernel
theorem dX11_refuse_1 : decode cX11_refuse 1 = .ok (.ifCond .lt 22, 3) := by decide +kernel
theorem dX11_refuse_4 : decode cX11_refuse 4 = .ok (.iload_n 1, 1) := by decide +kernel
theorem dX11_refuse_5 : decode cX11_refuse 5 = .ok (.aload_n 0, 1) := by decide +kernel
theorem dX11_refuse_6 : decode cX11_refuse 6 = .ok (.getfield 51, 3) := by decide +kernel
theorem dX11_refuse_9 : decode cX11_refuse 9 = .ok (.arraylength, 1) := by decide +kernel
theorem dX11_refuse_10 : decode cX11_refuse 10 = .ok (.if_icmp .ge 13, 3) := by decide +kernel
theorem dX11_refuse_13 : decode cX11_refuse 13 = .ok (.aload_n 0, 1) := by decide +kernel
theorem dX11_refuse_14 : decode cX11_refuse 14 = .ok (.getfield 51, 3) := by decide +kernel
theorem dX11_refuse_17 : decode cX11_refuse 17 = .ok (.iload_n 1, 1) := by decide +kernel
theorem dX11_refuse_18 : decode cX11_refuse 18 = .ok (.dup2, 1) := by decide +kernel
theorem dX11_refuse_19 : decode cX11_refuse 19 = .ok (.iaload, 1) := by decide +kernel
theorem dX11_refuse_20 : decode cX11_refuse 20 = .ok (.iconst 1, 1) := by decide +kernel
theorem dX11_refuse_21 : decode cX11_refuse 21 = .ok (.iadd, 1) := by decide +kernel
theorem dX11_refuse_22 : decode cX11_refuse 22 = .ok (.iastore, 1) := by decide +kernel
theorem dX11_refuse_23 : decode cX11_refuse 23 = .ok (.iconst (-1), 1) := by decide +kernel
theorem dX11_refuse_24 : decode cX11_refuse 24 = .ok (.ireturn, 1) := by decide +kernel
theorem dX11_round_0 : decode cX11_round 0 = .ok (.aload_n 0, 1) := by decide +kernel
theorem dX11_round_1 : decode cX11_round 1 = .ok (.getfield 10, 3) := by decide +kernel
theorem dX11_round_4 : decode cX11_round 4 = .ok (.iload_n 1, 1) := by decide +kernel
theorem dX11_round_5 : decode cX11_round 5 = .ok (.iload_n 2, 1) := by decide +kernel
theorem dX11_round_6 : decode cX11_round 6 = .ok (.iload_n 3, 1) := by decide +kernel
theorem dX11_round_7 : decode cX11_round 7 = .ok (.invokevirtual 141, 3) := by decide +kernel
theorem dX11_round_10 : decode cX11_round 10 = .ok (.ifCond .eq 14, 3) := by decide +kernel
theorem dX11_round_24 : decode cX11_round 24 = .ok (.aload_n 0, 1) := by decide +kernel
theorem dX11_round_25 : decode cX11_round 25 = .ok (.iconst 0, 1) := by decide +kernel
theorem dX11_round_26 : decode cX11_round 26 = .ok (.invokevirtual 110, 3) := by decide +kernel
theorem dX11_round_29 : decode cX11_round 29 = .ok (.ireturn, 1) := by decide +kernel
theorem dX11_seed_0 : decode cX11_seed 0 = .ok (.iload_n 1, 1) := by decide +kernel
theorem dX11_seed_1 : decode cX11_seed 1 = .ok (.iconst 0, 1) := by decide +kernel
theorem dX11_seed_2 : decode cX11_seed 2 = .ok (.ldc 158, 2) := by decide +kernel
theorem dX11_seed_4 : decode cX11_seed 4 = .ok (.invokestatic 131, 3) := by decide +kernel
theorem dX11_seed_7 : decode cX11_seed 7 = .ok (.ifCond .ne 11, 3) := by decide +kernel
theorem dX11_seed_10 : decode cX11_seed 10 = .ok (.aload_n 0, 1) := by decide +kernel
theorem dX11_seed_11 : decode cX11_seed 11 = .ok (.iconst 0, 1) := by decide +kernel
theorem dX11_seed_12 : decode cX11_seed 12 = .ok (.invokevirtual 110, 3) := by decide +kernel
theorem dX11_seed_15 : decode cX11_seed 15 = .ok (.pop, 1) := by decide +kernel
theorem dX11_seed_16 : decode cX11_seed 16 = .ok (.iconst 0, 1) := by decide +kernel
theorem dX11_seed_17 : decode cX11_seed 17 = .ok (.ireturn, 1) := by decide +kernel
theorem dX11_seed_18 : decode cX11_seed 18 = .ok (.aload_n 0, 1) := by decide +kernel
theorem dX11_seed_19 : decode cX11_seed 19 = .ok (.getfield 10, 3) := by decide +kernel
theorem dX11_seed_22 : decode cX11_seed 22 = .ok (.iload_n 1, 1) := by decide +kernel
theorem dX11_seed_23 : decode cX11_seed 23 = .ok (.i2l, 1) := by decide +kernel
theorem dX11_seed_24 : decode cX11_seed 24 = .ok (.putfield 159, 3) := by decide +kernel
theorem dX11_seed_27 : decode cX11_seed 27 = .ok (.iconst 1, 1) := by decide +kernel
theorem dX11_seed_28 : decode cX11_seed 28 = .ok (.ireturn, 1) := by decide +kernel
theorem dX11_week_0 : decode cX11_week 0 = .ok (.iload_n 1, 1) := by decide +kernel
theorem dX11_week_1 : decode cX11_week 1 = .ok (.invokestatic 127, 3) := by decide +kernel
theorem dX11_week_4 : decode cX11_week 4 = .ok (.ifCond .eq 36, 3) := by decide +kernel
theorem dX11_week_7 : decode cX11_week 7 = .ok (.iload_n 2, 1) := by decide +kernel
theorem dX11_week_8 : decode cX11_week 8 = .ok (.iconst 0, 1) := by decide +kernel
theorem dX11_week_9 : decode cX11_week 9 = .ok (.aload_n 0, 1) := by decide +kernel
theorem dX11_week_10 : decode cX11_week 10 = .ok (.getfield 10, 3) := by decide +kernel
theorem dX11_week_13 : decode cX11_week 13 = .ok (.getfield 121, 3) := by decide +kernel
theorem dX11_week_16 : decode cX11_week 16 = .ok (.iconst 1, 1) := by decide +kernel
theorem dX11_week_17 : decode cX11_week 17 = .ok (.isub, 1) := by decide +kernel
theorem dX11_week_18 : decode cX11_week 18 = .ok (.invokestatic 131, 3) := by decide +kernel
theorem dX11_week_21 : decode cX11_week 21 = .ok (.ifCond .eq 19, 3) := by decide +kernel
theorem dX11_week_40 : decode cX11_week 40 = .ok (.iconst 0, 1) := by decide +kernel
theorem dX11_week_41 : decode cX11_week 41 = .ok (.istore_n 3, 1) := by decide +kernel
theorem dX11_week_42 : decode cX11_week 42 = .ok (.iload_n 3, 1) := by decide +kernel
theorem dX11_week_43 : decode cX11_week 43 = .ok (.ifCond .ne 11, 3) := by decide +kernel
theorem dX11_week_46 : decode cX11_week 46 = .ok (.aload_n 0, 1) := by decide +kernel
theorem dX11_week_47 : decode cX11_week 47 = .ok (.iconst 0, 1) := by decide +kernel
theorem dX11_week_48 : decode cX11_week 48 = .ok (.invokevirtual 110, 3) := by decide +kernel
theorem dX11_week_51 : decode cX11_week 51 = .ok (.pop, 1) := by decide +kernel
theorem dX11_week_52 : decode cX11_week 52 = .ok (.iconst 0, 1) := by decide +kernel
theorem dX11_week_53 : decode cX11_week 53 = .ok (.ireturn, 1) := by decide +kernel
set_option maxHeartbeats 4000000 in
set_option maxRecDepth 100000 in
theorem c_refuse (l : Launch) (D : va_G) (cI cJ cZ cB : ClassId) (cO : ClassId) (x : Nat → Nat) :
    CI l D [(cI, .int), (cJ, .long), (cZ, .boolean), (cB, .byte), (cO, .object "LuckLinks$World")] yX11_refuse cX11_refuse 2 (some .int) ({ frames := 0, cells := 0, slots := 0, locals := 0 } : Room) [.ref (x 0), .int (0 : Int32)] [((x 0), .inr (11, [.ref (x 1), .ref (x 10), .int (0 : Int32), .ref (x 11), .int (0 : Int32), .ref (x 12), .ref (x 34), .ref (x 50), .int (-1 : Int32), .ref (x 66), .ref (x 67), .ref (x 68), .ref (x 76), .ref (x 81), .ref (x 84), .ref (x 89), .ref (x 97)])), ((x 66), .inl (cI, 3, .inl (fun _ => (0 : Int32))))] (fun (r : Int32) (u : Unit) => (r = (-1 : Int32) ∧ True)) (fun (_ : Unit) => []) := by
  intro sz
  refine body_of (y := yX11_refuse) (cc := cX11_refuse) (maxL := 2) (ret := (some .int)) (rm := ({ frames := 0, cells := 0, slots := 0, locals := 0 } : Room)) (wc := [((x 0), .inr (11, [.ref (x 1), .ref (x 10), .int (0 : Int32), .ref (x 11), .int (0 : Int32), .ref (x 12), .ref (x 34), .ref (x 50), .int (-1 : Int32), .ref (x 66), .ref (x 67), .ref (x 68), .ref (x 76), .ref (x 81), .ref (x 84), .ref (x 89), .ref (x 97)])), ((x 66), .inl (cI, 3, .inl (fun _ => (0 : Int32))))]) (tys := [(cI, .int), (cJ, .long), (cZ, .boolean), (cB, .byte), (cO, .object "LuckLinks$World")]) (D := D) (sz := sz) (own := RX11) (av := [.ref (x 0), .int (0 : Int32)]) (Qc := fun A => va_Qi (fun (r : Int32) (u : Unit) => (r = (-1 : Int32) ∧ True)) (fun u t => Aft D A ((fun (_ : Unit) => []) u) t) A) (by decide) rfl (Nat.le_of_ble_eq_true rfl) (fun p e s m below meth c A ls C hr hlk hin X hl => ?_)
  have hx := C.1
  have hb := C.2.1
  have hown := C.2.2.2.1
  have hts := C.2.2.2.2.1
  have hl : lv_has ls 2 [(0, .ref (x 0)), (1, .int (0 : Int32))] := hl
  show W p l e _ s m _ below meth c s.heap [] 0 0 (MQ below (va_Qi (fun (r : Int32) (u : Unit) => (r = (-1 : Int32) ∧ True)) (fun u t => Aft D A ((fun (_ : Unit) => []) u) t) A) ([.ref (x 0), .int (0 : Int32)] : List Value).toArray s 0 0 A) (F0 m 0 ls [])
  have X : Wd D A s [((x 0), .inr (11, [.ref (x 1), .ref (x 10), .int (0 : Int32), .ref (x 11), .int (0 : Int32), .ref (x 12), .ref (x 34), .ref (x 50), .int (-1 : Int32), .ref (x 66), .ref (x 67), .ref (x 68), .ref (x 76), .ref (x 81), .ref (x 84), .ref (x 89), .ref (x 97)])), ((x 66), .inl (cI, 3, .inl (fun _ => (0 : Int32))))] s.heap [] := X
  obtain ⟨H, locs, eH, eL⟩ : ∃ H locs, H = s.heap ∧ locs = ([] : List Loc) := ⟨_, _, rfl, rfl⟩
  rw [← eH, ← eL] at X ⊢
  clear eH eL
  refine lv_iload_n hx hb dX11_refuse_0 rfl (lv_at hl 1 rfl) ?_
  refine lv_if_lt (tgt := 23) hx hb dX11_refuse_1 (by decide) (fun c0 => absurd c0 (by decide)) (fun _ => ?_)
  refine lv_iload_n hx hb dX11_refuse_4 rfl (lv_at hl 1 rfl) ?_
  refine lv_aload_n hx hb dX11_refuse_5 rfl (lv_at hl 0 rfl) ?_
  refine x_get (own := RX11) (T := TX11) C X 0 rfl rfl 9 (by decide) k_2_8 rfl rfl (v := .ref (x 66)) rfl dX11_refuse_6 ?_
  refine x_alen C X 1 0 rfl rfl (v := (3 : Int32)) (by decide) dX11_refuse_9 ?_
  refine lv_icmp_ge (tgt := 23) hx hb dX11_refuse_10 (by decide) (fun c0 => absurd c0 (by decide)) (fun _ => ?_)
  refine lv_aload_n hx hb dX11_refuse_13 rfl (lv_at hl 0 rfl) ?_
  refine x_get (own := RX11) (T := TX11) C X 0 rfl rfl 9 (by decide) k_2_8 rfl rfl (v := .ref (x 66)) rfl dX11_refuse_14 ?_
  refine lv_iload_n hx hb dX11_refuse_17 rfl (lv_at hl 1 rfl) ?_
  refine lv_dup2_11 hx hb dX11_refuse_18 rfl rfl ?_
  refine x_iald C X 1 0 rfl rfl (j := 0) rfl (vp_in_nI (n := 0) (by omega) (by omega)) (v := (0 : Int32)) (rfl) dX11_refuse_19 ?_
  refine lv_iconst (v := (1 : Int32)) hx hb dX11_refuse_20 (by decide) ?_
  refine lv_iadd hx hb dX11_refuse_21 ?_
  refine x_eqi (show (0 : Int32) + (1 : Int32) = (1 : Int32) from by decide +kernel) ?_
  refine x_iast C X 1 0 rfl rfl (j := 0) rfl (vp_in_nI (n := 0) (by omega) (by omega)) dX11_refuse_22 (fun H locs X => ?_)
  have X : Wd D A s [((x 0), .inr (11, [.ref (x 1), .ref (x 10), .int (0 : Int32), .ref (x 11), .int (0 : Int32), .ref (x 12), .ref (x 34), .ref (x 50), .int (-1 : Int32), .ref (x 66), .ref (x 67), .ref (x 68), .ref (x 76), .ref (x 81), .ref (x 84), .ref (x 89), .ref (x 97)])), ((x 66), .inl (cI, 3, .inl (upd (fun _ => (0 : Int32)) (0) ((1 : Int32)))))] H locs := X
  refine lv_iconst (v := (-1 : Int32)) hx hb dX11_refuse_23 (by decide) ?_
  exact x_iret C X hr hlk (v := (-1 : Int32)) (by first | rfl | decide) (()) [] (by decide) rfl (⟨rfl, trivial⟩) (Nat.le_of_ble_eq_true rfl) (Nat.le_of_ble_eq_true rfl) dX11_refuse_24
set_option maxHeartbeats 4000000 in
set_option maxRecDepth 100000 in
theorem c_areWeeks (l : Launch) (D : va_G) (cI cJ cZ cB : ClassId) (cO : ClassId) (wf wt : Int32) :
    CI l D [(cI, .int), (cJ, .long), (cZ, .boolean), (cB, .byte), (cO, .object "LuckLinks$World")] yX11_areWeeks cX11_areWeeks 2 (some .boolean) ({ frames := 2, cells := 0, slots := 0, locals := 42 } : Room) [.int wf, .int wt] [] (fun (r : Int32) (u : Unit) => (r = (1 : Int32) ∧ (0 ≤ wf.toInt ∧ wf.toInt ≤ wt.toInt ∧ wt.toInt ≤ 39)) ∨ (r = (0 : Int32) ∧ (wf.toInt < 0 ∨ wt.toInt < wf.toInt ∨ 39 < wt.toInt))) (fun (_ : Unit) => []) := by
  intro sz
  refine body_of (y := yX11_areWeeks) (cc := cX11_areWeeks) (maxL := 2) (ret := (some .boolean)) (rm := ({ frames := 2, cells := 0, slots := 0, locals := 42 } : Room)) (wc := []) (tys := [(cI, .int), (cJ, .long), (cZ, .boolean), (cB, .byte), (cO, .object "LuckLinks$World")]) (D := D) (sz := sz) (own := RX11) (av := [.int wf, .int wt]) (Qc := fun A => va_Qi (fun (r : Int32) (u : Unit) => (r = (1 : Int32) ∧ (0 ≤ wf.toInt ∧ wf.toInt ≤ wt.toInt ∧ wt.toInt ≤ 39)) ∨ (r = (0 : Int32) ∧ (wf.toInt < 0 ∨ wt.toInt < wf.toInt ∨ 39 < wt.toInt))) (fun u t => Aft D A ((fun (_ : Unit) => []) u) t) A) (by decide) rfl (Nat.le_of_ble_eq_true rfl) (fun p e s m below meth c A ls C hr hlk hin X hl => ?_)
  have hx := C.1
  have hb := C.2.1
  have hown := C.2.2.2.1
  have hts := C.2.2.2.2.1
  have hl : lv_has ls 2 [(0, .int wf), (1, .int wt)] := hl
  show W p l e _ s m _ below meth c s.heap [] 0 0 (MQ below (va_Qi (fun (r : Int32) (u : Unit) => (r = (1 : Int32) ∧ (0 ≤ wf.toInt ∧ wf.toInt ≤ wt.toInt ∧ wt.toInt ≤ 39)) ∨ (r = (0 : Int32) ∧ (wf.toInt < 0 ∨ wt.toInt < wf.toInt ∨ 39 < wt.toInt))) (fun u t => Aft D A ((fun (_ : Unit) => []) u) t) A) ([.int wf, .int wt] : List Value).toArray s 0 0 A) (F0 m 0 ls [])
  have X : Wd D A s [] s.heap [] := X
  obtain ⟨H, locs, eH, eL⟩ : ∃ H locs, H = s.heap ∧ locs = ([] : List Loc) := ⟨_, _, rfl, rfl⟩
  rw [← eH, ← eL] at X ⊢
  clear eH eL
  refine lv_iload_n hx hb dX11_areWeeks_0 rfl (lv_at hl 0 rfl) ?_
  refine x_cS (own := RX11) (wr := []) (As := [.int wf]) C X hl.1 (c_isWeek l D cI cJ cZ cB cO wf) [] [] ⟨rfl, rfl, by decide, by decide, by decide⟩ k_14_0 k_14_1 k_1_2 k_14_2 (n := 1) (by decide +kernel) ⟨Nat.le_of_ble_eq_true rfl, Nat.le_of_ble_eq_true rfl⟩ rfl rfl (Nat.le_of_ble_eq_true rfl) dX11_areWeeks_1 ⟨Nat.le_of_ble_eq_true rfl, Nat.le_of_ble_eq_true rfl⟩ (fun r_2 u_1 H locs w_3 X => ?_)
  have X : Wd D A s [] H locs := X
  refine W.widen (k := 0) (n := 0) (Nat.le_of_ble_eq_true rfl) (Nat.le_of_ble_eq_true rfl) ?_
  obtain ⟨rfl, fw_3⟩ | ⟨rfl, fw_3⟩ : (r_2 = (1 : Int32) ∧ (0 ≤ (wf).toInt ∧ (wf).toInt ≤ 39)) ∨ (r_2 = (0 : Int32) ∧ ((wf).toInt < 0 ∨ 39 < (wf).toInt)) := w_3
  · refine lv_if_eq (tgt := 23) hx hb dX11_areWeeks_4 (by decide) (fun c0 => absurd c0 (by decide)) (fun _ => ?_)
    refine lv_iload_n hx hb dX11_areWeeks_7 rfl (lv_at hl 1 rfl) ?_
    refine x_cS (own := RX11) (wr := []) (As := [.int wt]) C X hl.1 (c_isWeek l D cI cJ cZ cB cO wt) [] [] ⟨rfl, rfl, by decide, by decide, by decide⟩ k_14_0 k_14_1 k_1_2 k_14_2 (n := 1) (by decide +kernel) ⟨Nat.le_of_ble_eq_true rfl, Nat.le_of_ble_eq_true rfl⟩ rfl rfl (Nat.le_of_ble_eq_true rfl) dX11_areWeeks_8 ⟨Nat.le_of_ble_eq_true rfl, Nat.le_of_ble_eq_true rfl⟩ (fun r_5 u_4 H locs w_6 X => ?_)
    have X : Wd D A s [] H locs := X
    refine W.widen (k := 0) (n := 0) (Nat.le_of_ble_eq_true rfl) (Nat.le_of_ble_eq_true rfl) ?_
    obtain ⟨rfl, fw_6⟩ | ⟨rfl, fw_6⟩ : (r_5 = (1 : Int32) ∧ (0 ≤ (wt).toInt ∧ (wt).toInt ≤ 39)) ∨ (r_5 = (0 : Int32) ∧ ((wt).toInt < 0 ∨ 39 < (wt).toInt)) := w_6
    · refine lv_if_eq (tgt := 23) hx hb dX11_areWeeks_11 (by decide) (fun c0 => absurd c0 (by decide)) (fun _ => ?_)
      refine lv_iload_n hx hb dX11_areWeeks_14 rfl (lv_at hl 0 rfl) ?_
      refine lv_iload_n hx hb dX11_areWeeks_15 rfl (lv_at hl 1 rfl) ?_
      refine lv_icmp_gt (tgt := 23) hx hb dX11_areWeeks_16 (by decide) (fun c_7 => ?_) (fun c_7 => ?_)
      · have fc_7 : (wt).toInt < (wf).toInt := i_lt c_7
        refine lv_iconst (v := (0 : Int32)) hx hb dX11_areWeeks_23 (by decide) ?_
        exact x_iret C X hr hlk (v := (0 : Int32)) (by first | rfl | decide) (()) [] (by decide) rfl (Or.inr (⟨rfl, by omega⟩)) (Nat.le_of_ble_eq_true rfl) (Nat.le_of_ble_eq_true rfl) dX11_areWeeks_24
      · have fc_7 : (wf).toInt ≤ (wt).toInt := i_nlt c_7
        refine lv_iconst (v := (1 : Int32)) hx hb dX11_areWeeks_19 (by decide) ?_
        refine lv_goto (tgt := 24) hx hb dX11_areWeeks_20 (by decide) ?_
        exact x_iret C X hr hlk (v := (1 : Int32)) (by first | rfl | decide) (()) [] (by decide) rfl (Or.inl (⟨rfl, by omega⟩)) (Nat.le_of_ble_eq_true rfl) (Nat.le_of_ble_eq_true rfl) dX11_areWeeks_24
    · refine lv_if_eq (tgt := 23) hx hb dX11_areWeeks_11 (by decide) (fun _ => ?_) (fun c0 => absurd (by decide) c0)
      refine lv_iconst (v := (0 : Int32)) hx hb dX11_areWeeks_23 (by decide) ?_
      exact x_iret C X hr hlk (v := (0 : Int32)) (by first | rfl | decide) (()) [] (by decide) rfl (Or.inr (⟨rfl, by omega⟩)) (Nat.le_of_ble_eq_true rfl) (Nat.le_of_ble_eq_true rfl) dX11_areWeeks_24
  · refine lv_if_eq (tgt := 23) hx hb dX11_areWeeks_4 (by decide) (fun _ => ?_) (fun c0 => absurd (by decide) c0)
    refine lv_iconst (v := (0 : Int32)) hx hb dX11_areWeeks_23 (by decide) ?_
    exact x_iret C X hr hlk (v := (0 : Int32)) (by first | rfl | decide) (()) [] (by decide) rfl (Or.inr (⟨rfl, by omega⟩)) (Nat.le_of_ble_eq_true rfl) (Nat.le_of_ble_eq_true rfl) dX11_areWeeks_24
set_option maxHeartbeats 4000000 in
set_option maxRecDepth 100000 in
theorem c_areHalves (l : Launch) (D : va_G) (cI cJ cZ cB : ClassId) (cO : ClassId) (wf wh wt : Int32) :
    CI l D [(cI, .int), (cJ, .long), (cZ, .boolean), (cB, .byte), (cO, .object "LuckLinks$World")] yX11_areHalves cX11_areHalves 3 (some .boolean) ({ frames := 3, cells := 0, slots := 0, locals := 63 } : Room) [.int wf, .int wh, .int wt] [] (fun (r : Int32) (u : Unit) => (r = (1 : Int32) ∧ (0 ≤ (wf).toInt ∧ (wf).toInt < (wh).toInt ∧ (wh).toInt ≤ (wt).toInt ∧ (wt).toInt ≤ 39)) ∨ (r = (0 : Int32) ∧ ((wf).toInt < 0 ∨ (wh).toInt ≤ (wf).toInt ∨ (wt).toInt < (wh).toInt ∨ 39 < (wt).toInt))) (fun (_ : Unit) => []) := by
  intro sz
  refine body_of (y := yX11_areHalves) (cc := cX11_areHalves) (maxL := 3) (ret := (some .boolean)) (rm := ({ frames := 3, cells := 0, slots := 0, locals := 63 } : Room)) (wc := []) (tys := [(cI, .int), (cJ, .long), (cZ, .boolean), (cB, .byte), (cO, .object "LuckLinks$World")]) (D := D) (sz := sz) (own := RX11) (av := [.int wf, .int wh, .int wt]) (Qc := fun A => va_Qi (fun (r : Int32) (u : Unit) => (r = (1 : Int32) ∧ (0 ≤ (wf).toInt ∧ (wf).toInt < (wh).toInt ∧ (wh).toInt ≤ (wt).toInt ∧ (wt).toInt ≤ 39)) ∨ (r = (0 : Int32) ∧ ((wf).toInt < 0 ∨ (wh).toInt ≤ (wf).toInt ∨ (wt).toInt < (wh).toInt ∨ 39 < (wt).toInt))) (fun u t => Aft D A ((fun (_ : Unit) => []) u) t) A) (by decide) rfl (Nat.le_of_ble_eq_true rfl) (fun p e s m below meth c A ls C hr hlk hin X hl => ?_)
  have hx := C.1
  have hb := C.2.1
  have hown := C.2.2.2.1
  have hts := C.2.2.2.2.1
  have hl : lv_has ls 3 [(0, .int wf), (1, .int wh), (2, .int wt)] := hl
  show W p l e _ s m _ below meth c s.heap [] 0 0 (MQ below (va_Qi (fun (r : Int32) (u : Unit) => (r = (1 : Int32) ∧ (0 ≤ (wf).toInt ∧ (wf).toInt < (wh).toInt ∧ (wh).toInt ≤ (wt).toInt ∧ (wt).toInt ≤ 39)) ∨ (r = (0 : Int32) ∧ ((wf).toInt < 0 ∨ (wh).toInt ≤ (wf).toInt ∨ (wt).toInt < (wh).toInt ∨ 39 < (wt).toInt))) (fun u t => Aft D A ((fun (_ : Unit) => []) u) t) A) ([.int wf, .int wh, .int wt] : List Value).toArray s 0 0 A) (F0 m 0 ls [])
  have X : Wd D A s [] s.heap [] := X
  obtain ⟨H, locs, eH, eL⟩ : ∃ H locs, H = s.heap ∧ locs = ([] : List Loc) := ⟨_, _, rfl, rfl⟩
  rw [← eH, ← eL] at X ⊢
  clear eH eL
  refine lv_iload_n hx hb dX11_areHalves_0 rfl (lv_at hl 0 rfl) ?_
  refine lv_iload_n hx hb dX11_areHalves_1 rfl (lv_at hl 2 rfl) ?_
  refine x_cS (own := RX11) (wr := []) (As := [.int wf, .int wt]) C X hl.1 (c_areWeeks l D cI cJ cZ cB cO wf wt) [] [] ⟨rfl, rfl, by decide, by decide, by decide⟩ k_41_2 k_41_3 k_1_2 k_41_4 (n := 2) (by decide +kernel) ⟨Nat.le_of_ble_eq_true rfl, Nat.le_of_ble_eq_true rfl⟩ rfl rfl (Nat.le_of_ble_eq_true rfl) dX11_areHalves_2 ⟨Nat.le_of_ble_eq_true rfl, Nat.le_of_ble_eq_true rfl⟩ (fun r_2 u_1 H locs w_3 X => ?_)
  have X : Wd D A s [] H locs := X
  refine W.widen (k := 0) (n := 0) (Nat.le_of_ble_eq_true rfl) (Nat.le_of_ble_eq_true rfl) ?_
  obtain ⟨rfl, fw_3⟩ | ⟨rfl, fw_3⟩ : (r_2 = (1 : Int32) ∧ (0 ≤ (wf).toInt ∧ (wf).toInt ≤ (wt).toInt ∧ (wt).toInt ≤ 39)) ∨ (r_2 = (0 : Int32) ∧ ((wf).toInt < 0 ∨ (wt).toInt < (wf).toInt ∨ 39 < (wt).toInt)) := w_3
  · refine lv_if_eq (tgt := 22) hx hb dX11_areHalves_5 (by decide) (fun c0 => absurd c0 (by decide)) (fun _ => ?_)
    refine lv_iload_n hx hb dX11_areHalves_8 rfl (lv_at hl 0 rfl) ?_
    refine lv_iload_n hx hb dX11_areHalves_9 rfl (lv_at hl 1 rfl) ?_
    refine lv_icmp_ge (tgt := 22) hx hb dX11_areHalves_10 (by decide) (fun c_4 => ?_) (fun c_4 => ?_)
    · have fc_4 : (wh).toInt ≤ (wf).toInt := i_le c_4
      refine lv_iconst (v := (0 : Int32)) hx hb dX11_areHalves_22 (by decide) ?_
      exact x_iret C X hr hlk (v := (0 : Int32)) (by first | rfl | decide) (()) [] (by decide) rfl (Or.inr (⟨rfl, by omega⟩)) (Nat.le_of_ble_eq_true rfl) (Nat.le_of_ble_eq_true rfl) dX11_areHalves_23
    · have fc_4 : (wf).toInt < (wh).toInt := i_nle c_4
      refine lv_iload_n hx hb dX11_areHalves_13 rfl (lv_at hl 1 rfl) ?_
      refine lv_iload_n hx hb dX11_areHalves_14 rfl (lv_at hl 2 rfl) ?_
      refine lv_icmp_gt (tgt := 22) hx hb dX11_areHalves_15 (by decide) (fun c_5 => ?_) (fun c_5 => ?_)
      · have fc_5 : (wt).toInt < (wh).toInt := i_lt c_5
        refine lv_iconst (v := (0 : Int32)) hx hb dX11_areHalves_22 (by decide) ?_
        exact x_iret C X hr hlk (v := (0 : Int32)) (by first | rfl | decide) (()) [] (by decide) rfl (Or.inr (⟨rfl, by omega⟩)) (Nat.le_of_ble_eq_true rfl) (Nat.le_of_ble_eq_true rfl) dX11_areHalves_23
      · have fc_5 : (wh).toInt ≤ (wt).toInt := i_nlt c_5
        refine lv_iconst (v := (1 : Int32)) hx hb dX11_areHalves_18 (by decide) ?_
        refine lv_goto (tgt := 23) hx hb dX11_areHalves_19 (by decide) ?_
        exact x_iret C X hr hlk (v := (1 : Int32)) (by first | rfl | decide) (()) [] (by decide) rfl (Or.inl (⟨rfl, by omega⟩)) (Nat.le_of_ble_eq_true rfl) (Nat.le_of_ble_eq_true rfl) dX11_areHalves_23
  · refine lv_if_eq (tgt := 22) hx hb dX11_areHalves_5 (by decide) (fun _ => ?_) (fun c0 => absurd (by decide) c0)
    refine lv_iconst (v := (0 : Int32)) hx hb dX11_areHalves_22 (by decide) ?_
    exact x_iret C X hr hlk (v := (0 : Int32)) (by first | rfl | decide) (()) [] (by decide) rfl (Or.inr (⟨rfl, by omega⟩)) (Nat.le_of_ble_eq_true rfl) (Nat.le_of_ble_eq_true rfl) dX11_areHalves_23
set_option maxHeartbeats 4000000 in
set_option maxRecDepth 100000 in
theorem c_isPart (l : Launch) (D : va_G) (cI cJ cZ cB : ClassId) (cO : ClassId) (v : Int32) :
    CI l D [(cI, .int), (cJ, .long), (cZ, .boolean), (cB, .byte), (cO, .object "LuckLinks$World")] yX11_isPart cX11_isPart 1 (some .boolean) ({ frames := 1, cells := 0, slots := 0, locals := 22 } : Room) [.int v] [] (fun (r : Int32) (u : Unit) => (r = (1 : Int32) ∧ (-1 ≤ (v).toInt ∧ (v).toInt ≤ 3)) ∨ (r = (0 : Int32) ∧ ((v).toInt < -1 ∨ 3 < (v).toInt))) (fun (_ : Unit) => []) := by
  intro sz
  refine body_of (y := yX11_isPart) (cc := cX11_isPart) (maxL := 1) (ret := (some .boolean)) (rm := ({ frames := 1, cells := 0, slots := 0, locals := 22 } : Room)) (wc := []) (tys := [(cI, .int), (cJ, .long), (cZ, .boolean), (cB, .byte), (cO, .object "LuckLinks$World")]) (D := D) (sz := sz) (own := RX11) (av := [.int v]) (Qc := fun A => va_Qi (fun (r : Int32) (u : Unit) => (r = (1 : Int32) ∧ (-1 ≤ (v).toInt ∧ (v).toInt ≤ 3)) ∨ (r = (0 : Int32) ∧ ((v).toInt < -1 ∨ 3 < (v).toInt))) (fun u t => Aft D A ((fun (_ : Unit) => []) u) t) A) (by decide) rfl (Nat.le_of_ble_eq_true rfl) (fun p e s m below meth c A ls C hr hlk hin X hl => ?_)
  have hx := C.1
  have hb := C.2.1
  have hown := C.2.2.2.1
  have hts := C.2.2.2.2.1
  have hl : lv_has ls 1 [(0, .int v)] := hl
  show W p l e _ s m _ below meth c s.heap [] 0 0 (MQ below (va_Qi (fun (r : Int32) (u : Unit) => (r = (1 : Int32) ∧ (-1 ≤ (v).toInt ∧ (v).toInt ≤ 3)) ∨ (r = (0 : Int32) ∧ ((v).toInt < -1 ∨ 3 < (v).toInt))) (fun u t => Aft D A ((fun (_ : Unit) => []) u) t) A) ([.int v] : List Value).toArray s 0 0 A) (F0 m 0 ls [])
  have X : Wd D A s [] s.heap [] := X
  obtain ⟨H, locs, eH, eL⟩ : ∃ H locs, H = s.heap ∧ locs = ([] : List Loc) := ⟨_, _, rfl, rfl⟩
  rw [← eH, ← eL] at X ⊢
  clear eH eL
  refine lv_iload_n hx hb dX11_isPart_0 rfl (lv_at hl 0 rfl) ?_
  refine lv_iconst (v := (-1 : Int32)) hx hb dX11_isPart_1 (by decide) ?_
  refine lv_iconst (v := (3 : Int32)) hx hb dX11_isPart_2 (by decide) ?_
  refine x_cS (own := RX11) (wr := []) (As := [.int v, .int (-1 : Int32), .int (3 : Int32)]) C X hl.1 (c_isBetween l D cI cJ cZ cB cO v (-1 : Int32) (3 : Int32)) [] [] ⟨rfl, rfl, by decide, by decide, by decide⟩ k_12_5 k_12_6 k_1_2 k_12_7 (n := 3) (by decide +kernel) ⟨Nat.le_of_ble_eq_true rfl, Nat.le_of_ble_eq_true rfl⟩ rfl rfl (Nat.le_of_ble_eq_true rfl) dX11_isPart_3 ⟨Nat.le_of_ble_eq_true rfl, Nat.le_of_ble_eq_true rfl⟩ (fun r_2 u_1 H locs w_3 X => ?_)
  have X : Wd D A s [] H locs := X
  refine W.widen (k := 0) (n := 0) (Nat.le_of_ble_eq_true rfl) (Nat.le_of_ble_eq_true rfl) ?_
  obtain ⟨rfl, fw_3⟩ | ⟨rfl, fw_3⟩ : (r_2 = (1 : Int32) ∧ ((-1 : Int) ≤ (v).toInt ∧ (v).toInt ≤ (3 : Int))) ∨ (r_2 = (0 : Int32) ∧ ((v).toInt < (-1 : Int) ∨ (3 : Int) < (v).toInt)) := w_3
  · exact x_iret C X hr hlk (v := (1 : Int32)) (by first | rfl | decide) (()) [] (by decide) rfl (Or.inl (⟨rfl, by omega⟩)) (Nat.le_of_ble_eq_true rfl) (Nat.le_of_ble_eq_true rfl) dX11_isPart_6
  · exact x_iret C X hr hlk (v := (0 : Int32)) (by first | rfl | decide) (()) [] (by decide) rfl (Or.inr (⟨rfl, by omega⟩)) (Nat.le_of_ble_eq_true rfl) (Nat.le_of_ble_eq_true rfl) dX11_isPart_6
set_option maxHeartbeats 4000000 in
set_option maxRecDepth 100000 in
theorem c_areBetween (l : Launch) (D : va_G) (cI cJ cZ cB : ClassId) (cO : ClassId) (p1 p2 p3 p4 lo hi : Int32) :
    CI l D [(cI, .int), (cJ, .long), (cZ, .boolean), (cB, .byte), (cO, .object "LuckLinks$World")] yX11_areBetween cX11_areBetween 6 (some .boolean) ({ frames := 1, cells := 0, slots := 0, locals := 22 } : Room) [.int p1, .int p2, .int p3, .int p4, .int lo, .int hi] [] (fun (r : Int32) (u : Unit) => (r = (1 : Int32) ∧ ((lo).toInt ≤ (p1).toInt ∧ (p1).toInt ≤ (hi).toInt ∧ (lo).toInt ≤ (p2).toInt ∧ (p2).toInt ≤ (hi).toInt ∧ (lo).toInt ≤ (p3).toInt ∧ (p3).toInt ≤ (hi).toInt ∧ (lo).toInt ≤ (p4).toInt ∧ (p4).toInt ≤ (hi).toInt)) ∨ (r = (0 : Int32) ∧ ((p1).toInt < (lo).toInt ∨ (hi).toInt < (p1).toInt ∨ (p2).toInt < (lo).toInt ∨ (hi).toInt < (p2).toInt ∨ (p3).toInt < (lo).toInt ∨ (hi).toInt < (p3).toInt ∨ (p4).toInt < (lo).toInt ∨ (hi).toInt < (p4).toInt))) (fun (_ : Unit) => []) := by
  intro sz
  refine body_of (y := yX11_areBetween) (cc := cX11_areBetween) (maxL := 6) (ret := (some .boolean)) (rm := ({ frames := 1, cells := 0, slots := 0, locals := 22 } : Room)) (wc := []) (tys := [(cI, .int), (cJ, .long), (cZ, .boolean), (cB, .byte), (cO, .object "LuckLinks$World")]) (D := D) (sz := sz) (own := RX11) (av := [.int p1, .int p2, .int p3, .int p4, .int lo, .int hi]) (Qc := fun A => va_Qi (fun (r : Int32) (u : Unit) => (r = (1 : Int32) ∧ ((lo).toInt ≤ (p1).toInt ∧ (p1).toInt ≤ (hi).toInt ∧ (lo).toInt ≤ (p2).toInt ∧ (p2).toInt ≤ (hi).toInt ∧ (lo).toInt ≤ (p3).toInt ∧ (p3).toInt ≤ (hi).toInt ∧ (lo).toInt ≤ (p4).toInt ∧ (p4).toInt ≤ (hi).toInt)) ∨ (r = (0 : Int32) ∧ ((p1).toInt < (lo).toInt ∨ (hi).toInt < (p1).toInt ∨ (p2).toInt < (lo).toInt ∨ (hi).toInt < (p2).toInt ∨ (p3).toInt < (lo).toInt ∨ (hi).toInt < (p3).toInt ∨ (p4).toInt < (lo).toInt ∨ (hi).toInt < (p4).toInt))) (fun u t => Aft D A ((fun (_ : Unit) => []) u) t) A) (by decide) rfl (Nat.le_of_ble_eq_true rfl) (fun p e s m below meth c A ls C hr hlk hin X hl => ?_)
  have hx := C.1
  have hb := C.2.1
  have hown := C.2.2.2.1
  have hts := C.2.2.2.2.1
  have hl : lv_has ls 6 [(0, .int p1), (1, .int p2), (2, .int p3), (3, .int p4), (4, .int lo), (5, .int hi)] := hl
  show W p l e _ s m _ below meth c s.heap [] 0 0 (MQ below (va_Qi (fun (r : Int32) (u : Unit) => (r = (1 : Int32) ∧ ((lo).toInt ≤ (p1).toInt ∧ (p1).toInt ≤ (hi).toInt ∧ (lo).toInt ≤ (p2).toInt ∧ (p2).toInt ≤ (hi).toInt ∧ (lo).toInt ≤ (p3).toInt ∧ (p3).toInt ≤ (hi).toInt ∧ (lo).toInt ≤ (p4).toInt ∧ (p4).toInt ≤ (hi).toInt)) ∨ (r = (0 : Int32) ∧ ((p1).toInt < (lo).toInt ∨ (hi).toInt < (p1).toInt ∨ (p2).toInt < (lo).toInt ∨ (hi).toInt < (p2).toInt ∨ (p3).toInt < (lo).toInt ∨ (hi).toInt < (p3).toInt ∨ (p4).toInt < (lo).toInt ∨ (hi).toInt < (p4).toInt))) (fun u t => Aft D A ((fun (_ : Unit) => []) u) t) A) ([.int p1, .int p2, .int p3, .int p4, .int lo, .int hi] : List Value).toArray s 0 0 A) (F0 m 0 ls [])
  have X : Wd D A s [] s.heap [] := X
  obtain ⟨H, locs, eH, eL⟩ : ∃ H locs, H = s.heap ∧ locs = ([] : List Loc) := ⟨_, _, rfl, rfl⟩
  rw [← eH, ← eL] at X ⊢
  clear eH eL
  refine lv_iload_n hx hb dX11_areBetween_0 rfl (lv_at hl 0 rfl) ?_
  refine lv_iload hx hb dX11_areBetween_1 (lv_at hl 4 rfl) ?_
  refine lv_iload hx hb dX11_areBetween_3 (lv_at hl 5 rfl) ?_
  refine x_cS (own := RX11) (wr := []) (As := [.int p1, .int lo, .int hi]) C X hl.1 (c_isBetween l D cI cJ cZ cB cO p1 lo hi) [] [] ⟨rfl, rfl, by decide, by decide, by decide⟩ k_12_5 k_12_6 k_1_2 k_12_7 (n := 3) (by decide +kernel) ⟨Nat.le_of_ble_eq_true rfl, Nat.le_of_ble_eq_true rfl⟩ rfl rfl (Nat.le_of_ble_eq_true rfl) dX11_areBetween_5 ⟨Nat.le_of_ble_eq_true rfl, Nat.le_of_ble_eq_true rfl⟩ (fun r_2 u_1 H locs w_3 X => ?_)
  have X : Wd D A s [] H locs := X
  refine W.widen (k := 0) (n := 0) (Nat.le_of_ble_eq_true rfl) (Nat.le_of_ble_eq_true rfl) ?_
  obtain ⟨rfl, fw_3⟩ | ⟨rfl, fw_3⟩ : (r_2 = (1 : Int32) ∧ ((lo).toInt ≤ (p1).toInt ∧ (p1).toInt ≤ (hi).toInt)) ∨ (r_2 = (0 : Int32) ∧ ((p1).toInt < (lo).toInt ∨ (hi).toInt < (p1).toInt)) := w_3
  · refine lv_if_eq (tgt := 48) hx hb dX11_areBetween_8 (by decide) (fun c0 => absurd c0 (by decide)) (fun _ => ?_)
    refine lv_iload_n hx hb dX11_areBetween_11 rfl (lv_at hl 1 rfl) ?_
    refine lv_iload hx hb dX11_areBetween_12 (lv_at hl 4 rfl) ?_
    refine lv_iload hx hb dX11_areBetween_14 (lv_at hl 5 rfl) ?_
    refine x_cS (own := RX11) (wr := []) (As := [.int p2, .int lo, .int hi]) C X hl.1 (c_isBetween l D cI cJ cZ cB cO p2 lo hi) [] [] ⟨rfl, rfl, by decide, by decide, by decide⟩ k_12_5 k_12_6 k_1_2 k_12_7 (n := 3) (by decide +kernel) ⟨Nat.le_of_ble_eq_true rfl, Nat.le_of_ble_eq_true rfl⟩ rfl rfl (Nat.le_of_ble_eq_true rfl) dX11_areBetween_16 ⟨Nat.le_of_ble_eq_true rfl, Nat.le_of_ble_eq_true rfl⟩ (fun r_5 u_4 H locs w_6 X => ?_)
    have X : Wd D A s [] H locs := X
    refine W.widen (k := 0) (n := 0) (Nat.le_of_ble_eq_true rfl) (Nat.le_of_ble_eq_true rfl) ?_
    obtain ⟨rfl, fw_6⟩ | ⟨rfl, fw_6⟩ : (r_5 = (1 : Int32) ∧ ((lo).toInt ≤ (p2).toInt ∧ (p2).toInt ≤ (hi).toInt)) ∨ (r_5 = (0 : Int32) ∧ ((p2).toInt < (lo).toInt ∨ (hi).toInt < (p2).toInt)) := w_6
    · refine lv_if_eq (tgt := 48) hx hb dX11_areBetween_19 (by decide) (fun c0 => absurd c0 (by decide)) (fun _ => ?_)
      refine lv_iload_n hx hb dX11_areBetween_22 rfl (lv_at hl 2 rfl) ?_
      refine lv_iload hx hb dX11_areBetween_23 (lv_at hl 4 rfl) ?_
      refine lv_iload hx hb dX11_areBetween_25 (lv_at hl 5 rfl) ?_
      refine x_cS (own := RX11) (wr := []) (As := [.int p3, .int lo, .int hi]) C X hl.1 (c_isBetween l D cI cJ cZ cB cO p3 lo hi) [] [] ⟨rfl, rfl, by decide, by decide, by decide⟩ k_12_5 k_12_6 k_1_2 k_12_7 (n := 3) (by decide +kernel) ⟨Nat.le_of_ble_eq_true rfl, Nat.le_of_ble_eq_true rfl⟩ rfl rfl (Nat.le_of_ble_eq_true rfl) dX11_areBetween_27 ⟨Nat.le_of_ble_eq_true rfl, Nat.le_of_ble_eq_true rfl⟩ (fun r_8 u_7 H locs w_9 X => ?_)
      have X : Wd D A s [] H locs := X
      refine W.widen (k := 0) (n := 0) (Nat.le_of_ble_eq_true rfl) (Nat.le_of_ble_eq_true rfl) ?_
      obtain ⟨rfl, fw_9⟩ | ⟨rfl, fw_9⟩ : (r_8 = (1 : Int32) ∧ ((lo).toInt ≤ (p3).toInt ∧ (p3).toInt ≤ (hi).toInt)) ∨ (r_8 = (0 : Int32) ∧ ((p3).toInt < (lo).toInt ∨ (hi).toInt < (p3).toInt)) := w_9
      · refine lv_if_eq (tgt := 48) hx hb dX11_areBetween_30 (by decide) (fun c0 => absurd c0 (by decide)) (fun _ => ?_)
        refine lv_iload_n hx hb dX11_areBetween_33 rfl (lv_at hl 3 rfl) ?_
        refine lv_iload hx hb dX11_areBetween_34 (lv_at hl 4 rfl) ?_
        refine lv_iload hx hb dX11_areBetween_36 (lv_at hl 5 rfl) ?_
        refine x_cS (own := RX11) (wr := []) (As := [.int p4, .int lo, .int hi]) C X hl.1 (c_isBetween l D cI cJ cZ cB cO p4 lo hi) [] [] ⟨rfl, rfl, by decide, by decide, by decide⟩ k_12_5 k_12_6 k_1_2 k_12_7 (n := 3) (by decide +kernel) ⟨Nat.le_of_ble_eq_true rfl, Nat.le_of_ble_eq_true rfl⟩ rfl rfl (Nat.le_of_ble_eq_true rfl) dX11_areBetween_38 ⟨Nat.le_of_ble_eq_true rfl, Nat.le_of_ble_eq_true rfl⟩ (fun r_11 u_10 H locs w_12 X => ?_)
        have X : Wd D A s [] H locs := X
        refine W.widen (k := 0) (n := 0) (Nat.le_of_ble_eq_true rfl) (Nat.le_of_ble_eq_true rfl) ?_
        obtain ⟨rfl, fw_12⟩ | ⟨rfl, fw_12⟩ : (r_11 = (1 : Int32) ∧ ((lo).toInt ≤ (p4).toInt ∧ (p4).toInt ≤ (hi).toInt)) ∨ (r_11 = (0 : Int32) ∧ ((p4).toInt < (lo).toInt ∨ (hi).toInt < (p4).toInt)) := w_12
        · refine lv_if_eq (tgt := 48) hx hb dX11_areBetween_41 (by decide) (fun c0 => absurd c0 (by decide)) (fun _ => ?_)
          refine lv_iconst (v := (1 : Int32)) hx hb dX11_areBetween_44 (by decide) ?_
          refine lv_goto (tgt := 49) hx hb dX11_areBetween_45 (by decide) ?_
          exact x_iret C X hr hlk (v := (1 : Int32)) (by first | rfl | decide) (()) [] (by decide) rfl (Or.inl (⟨rfl, by omega⟩)) (Nat.le_of_ble_eq_true rfl) (Nat.le_of_ble_eq_true rfl) dX11_areBetween_49
        · refine lv_if_eq (tgt := 48) hx hb dX11_areBetween_41 (by decide) (fun _ => ?_) (fun c0 => absurd (by decide) c0)
          refine lv_iconst (v := (0 : Int32)) hx hb dX11_areBetween_48 (by decide) ?_
          exact x_iret C X hr hlk (v := (0 : Int32)) (by first | rfl | decide) (()) [] (by decide) rfl (Or.inr (⟨rfl, by omega⟩)) (Nat.le_of_ble_eq_true rfl) (Nat.le_of_ble_eq_true rfl) dX11_areBetween_49
      · refine lv_if_eq (tgt := 48) hx hb dX11_areBetween_30 (by decide) (fun _ => ?_) (fun c0 => absurd (by decide) c0)
        refine lv_iconst (v := (0 : Int32)) hx hb dX11_areBetween_48 (by decide) ?_
        exact x_iret C X hr hlk (v := (0 : Int32)) (by first | rfl | decide) (()) [] (by decide) rfl (Or.inr (⟨rfl, by omega⟩)) (Nat.le_of_ble_eq_true rfl) (Nat.le_of_ble_eq_true rfl) dX11_areBetween_49
    · refine lv_if_eq (tgt := 48) hx hb dX11_areBetween_19 (by decide) (fun _ => ?_) (fun c0 => absurd (by decide) c0)
      refine lv_iconst (v := (0 : Int32)) hx hb dX11_areBetween_48 (by decide) ?_
      exact x_iret C X hr hlk (v := (0 : Int32)) (by first | rfl | decide) (()) [] (by decide) rfl (Or.inr (⟨rfl, by omega⟩)) (Nat.le_of_ble_eq_true rfl) (Nat.le_of_ble_eq_true rfl) dX11_areBetween_49
  · refine lv_if_eq (tgt := 48) hx hb dX11_areBetween_8 (by decide) (fun _ => ?_) (fun c0 => absurd (by decide) c0)
    refine lv_iconst (v := (0 : Int32)) hx hb dX11_areBetween_48 (by decide) ?_
    exact x_iret C X hr hlk (v := (0 : Int32)) (by first | rfl | decide) (()) [] (by decide) rfl (Or.inr (⟨rfl, by omega⟩)) (Nat.le_of_ble_eq_true rfl) (Nat.le_of_ble_eq_true rfl) dX11_areBetween_49
set_option maxHeartbeats 4000000 in
set_option maxRecDepth 100000 in
theorem cx_player (l : Launch) (D : va_G) (cI cJ cZ cB : ClassId) (cO : ClassId) (x : Nat → Nat) (p1 p2 p3 p4 : Int32) :
    CI l D [(cI, .int), (cJ, .long), (cZ, .boolean), (cB, .byte), (cO, .object "LuckLinks$World")] yX11_player cX11_player 5 (some .int) ({ frames := 2, cells := 0, slots := 0, locals := 50 } : Room) [.ref (x 0), .int p1, .int p2, .int p3, .int p4] [((x 0), .inr (11, [.ref (x 1), .ref (x 10), .int (0 : Int32), .ref (x 11), .int (0 : Int32), .ref (x 12), .ref (x 34), .ref (x 50), .int (-1 : Int32), .ref (x 66), .ref (x 67), .ref (x 68), .ref (x 76), .ref (x 81), .ref (x 84), .ref (x 89), .ref (x 97)])), ((x 1), .inr (10, [.int (0 : Int32), .ref (x 2), .int (0 : Int32), .ref (x 3), .ref (x 4), .int (0 : Int32), .ref (x 5), .ref (x 6), .ref (x 7), .ref (x 8), .ref (x 9), .long (1 : Int64)])), ((x 2), .inl (cI, 80, .inl (fun _ => (0 : Int32)))), ((x 66), .inl (cI, 3, .inl (fun _ => (0 : Int32))))] (fun (r : Int32) (u : Unit) => (r = (0 : Int32) ∧ (-20 ≤ p1.toInt ∧ p1.toInt ≤ 20 ∧ -20 ≤ p2.toInt ∧ p2.toInt ≤ 20 ∧ -20 ≤ p3.toInt ∧ p3.toInt ≤ 20 ∧ -20 ≤ p4.toInt ∧ p4.toInt ≤ 20)) ∨ (r = (-1 : Int32) ∧ (p1.toInt < -20 ∨ 20 < p1.toInt ∨ p2.toInt < -20 ∨ 20 < p2.toInt ∨ p3.toInt < -20 ∨ 20 < p3.toInt ∨ p4.toInt < -20 ∨ 20 < p4.toInt))) (fun (_ : Unit) => []) := by
  intro sz
  refine body_of (y := yX11_player) (cc := cX11_player) (maxL := 5) (ret := (some .int)) (rm := ({ frames := 2, cells := 0, slots := 0, locals := 50 } : Room)) (wc := [((x 0), .inr (11, [.ref (x 1), .ref (x 10), .int (0 : Int32), .ref (x 11), .int (0 : Int32), .ref (x 12), .ref (x 34), .ref (x 50), .int (-1 : Int32), .ref (x 66), .ref (x 67), .ref (x 68), .ref (x 76), .ref (x 81), .ref (x 84), .ref (x 89), .ref (x 97)])), ((x 1), .inr (10, [.int (0 : Int32), .ref (x 2), .int (0 : Int32), .ref (x 3), .ref (x 4), .int (0 : Int32), .ref (x 5), .ref (x 6), .ref (x 7), .ref (x 8), .ref (x 9), .long (1 : Int64)])), ((x 2), .inl (cI, 80, .inl (fun _ => (0 : Int32)))), ((x 66), .inl (cI, 3, .inl (fun _ => (0 : Int32))))]) (tys := [(cI, .int), (cJ, .long), (cZ, .boolean), (cB, .byte), (cO, .object "LuckLinks$World")]) (D := D) (sz := sz) (own := RX11) (av := [.ref (x 0), .int p1, .int p2, .int p3, .int p4]) (Qc := fun A => va_Qi (fun (r : Int32) (u : Unit) => (r = (0 : Int32) ∧ (-20 ≤ p1.toInt ∧ p1.toInt ≤ 20 ∧ -20 ≤ p2.toInt ∧ p2.toInt ≤ 20 ∧ -20 ≤ p3.toInt ∧ p3.toInt ≤ 20 ∧ -20 ≤ p4.toInt ∧ p4.toInt ≤ 20)) ∨ (r = (-1 : Int32) ∧ (p1.toInt < -20 ∨ 20 < p1.toInt ∨ p2.toInt < -20 ∨ 20 < p2.toInt ∨ p3.toInt < -20 ∨ 20 < p3.toInt ∨ p4.toInt < -20 ∨ 20 < p4.toInt))) (fun u t => Aft D A ((fun (_ : Unit) => []) u) t) A) (by decide) rfl (Nat.le_of_ble_eq_true rfl) (fun p e s m below meth c A ls C hr hlk hin X hl => ?_)
  have hx := C.1
  have hb := C.2.1
  have hown := C.2.2.2.1
  have hts := C.2.2.2.2.1
  have hl : lv_has ls 5 [(0, .ref (x 0)), (1, .int p1), (2, .int p2), (3, .int p3), (4, .int p4)] := hl
  show W p l e _ s m _ below meth c s.heap [] 0 0 (MQ below (va_Qi (fun (r : Int32) (u : Unit) => (r = (0 : Int32) ∧ (-20 ≤ p1.toInt ∧ p1.toInt ≤ 20 ∧ -20 ≤ p2.toInt ∧ p2.toInt ≤ 20 ∧ -20 ≤ p3.toInt ∧ p3.toInt ≤ 20 ∧ -20 ≤ p4.toInt ∧ p4.toInt ≤ 20)) ∨ (r = (-1 : Int32) ∧ (p1.toInt < -20 ∨ 20 < p1.toInt ∨ p2.toInt < -20 ∨ 20 < p2.toInt ∨ p3.toInt < -20 ∨ 20 < p3.toInt ∨ p4.toInt < -20 ∨ 20 < p4.toInt))) (fun u t => Aft D A ((fun (_ : Unit) => []) u) t) A) ([.ref (x 0), .int p1, .int p2, .int p3, .int p4] : List Value).toArray s 0 0 A) (F0 m 0 ls [])
  have X : Wd D A s [((x 0), .inr (11, [.ref (x 1), .ref (x 10), .int (0 : Int32), .ref (x 11), .int (0 : Int32), .ref (x 12), .ref (x 34), .ref (x 50), .int (-1 : Int32), .ref (x 66), .ref (x 67), .ref (x 68), .ref (x 76), .ref (x 81), .ref (x 84), .ref (x 89), .ref (x 97)])), ((x 1), .inr (10, [.int (0 : Int32), .ref (x 2), .int (0 : Int32), .ref (x 3), .ref (x 4), .int (0 : Int32), .ref (x 5), .ref (x 6), .ref (x 7), .ref (x 8), .ref (x 9), .long (1 : Int64)])), ((x 2), .inl (cI, 80, .inl (fun _ => (0 : Int32)))), ((x 66), .inl (cI, 3, .inl (fun _ => (0 : Int32))))] s.heap [] := X
  obtain ⟨H, locs, eH, eL⟩ : ∃ H locs, H = s.heap ∧ locs = ([] : List Loc) := ⟨_, _, rfl, rfl⟩
  rw [← eH, ← eL] at X ⊢
  clear eH eL
  refine lv_iload_n hx hb dX11_player_0 rfl (lv_at hl 1 rfl) ?_
  refine lv_iload_n hx hb dX11_player_1 rfl (lv_at hl 2 rfl) ?_
  refine lv_iload_n hx hb dX11_player_2 rfl (lv_at hl 3 rfl) ?_
  refine lv_iload hx hb dX11_player_3 (lv_at hl 4 rfl) ?_
  refine lv_bipush (v := (-20 : Int32)) hx hb dX11_player_5 (by decide) ?_
  refine lv_bipush (v := (20 : Int32)) hx hb dX11_player_7 (by decide) ?_
  refine x_cS (own := RX11) (wr := [((x 0), .inr (11, [.ref (x 1), .ref (x 10), .int (0 : Int32), .ref (x 11), .int (0 : Int32), .ref (x 12), .ref (x 34), .ref (x 50), .int (-1 : Int32), .ref (x 66), .ref (x 67), .ref (x 68), .ref (x 76), .ref (x 81), .ref (x 84), .ref (x 89), .ref (x 97)])), ((x 1), .inr (10, [.int (0 : Int32), .ref (x 2), .int (0 : Int32), .ref (x 3), .ref (x 4), .int (0 : Int32), .ref (x 5), .ref (x 6), .ref (x 7), .ref (x 8), .ref (x 9), .long (1 : Int64)])), ((x 2), .inl (cI, 80, .inl (fun _ => (0 : Int32)))), ((x 66), .inl (cI, 3, .inl (fun _ => (0 : Int32))))]) (As := [.int p1, .int p2, .int p3, .int p4, .int (-20 : Int32), .int (20 : Int32)]) C X hl.1 (c_areBetween l D cI cJ cZ cB cO p1 p2 p3 p4 (-20 : Int32) (20 : Int32)) [] [0, 1, 2, 3] ⟨rfl, rfl, by decide, by decide, by decide⟩ k_12_2 k_12_3 k_1_2 k_12_4 (n := 6) (by decide +kernel) ⟨Nat.le_of_ble_eq_true rfl, Nat.le_of_ble_eq_true rfl⟩ rfl rfl (Nat.le_of_ble_eq_true rfl) dX11_player_9 ⟨Nat.le_of_ble_eq_true rfl, Nat.le_of_ble_eq_true rfl⟩ (fun r_2 u_1 H locs w_3 X => ?_)
  have X : Wd D A s [((x 0), .inr (11, [.ref (x 1), .ref (x 10), .int (0 : Int32), .ref (x 11), .int (0 : Int32), .ref (x 12), .ref (x 34), .ref (x 50), .int (-1 : Int32), .ref (x 66), .ref (x 67), .ref (x 68), .ref (x 76), .ref (x 81), .ref (x 84), .ref (x 89), .ref (x 97)])), ((x 1), .inr (10, [.int (0 : Int32), .ref (x 2), .int (0 : Int32), .ref (x 3), .ref (x 4), .int (0 : Int32), .ref (x 5), .ref (x 6), .ref (x 7), .ref (x 8), .ref (x 9), .long (1 : Int64)])), ((x 2), .inl (cI, 80, .inl (fun _ => (0 : Int32)))), ((x 66), .inl (cI, 3, .inl (fun _ => (0 : Int32))))] H locs := X
  refine W.widen (k := 0) (n := 0) (Nat.le_of_ble_eq_true rfl) (Nat.le_of_ble_eq_true rfl) ?_
  obtain ⟨rfl, fw_3⟩ | ⟨rfl, fw_3⟩ : (r_2 = (1 : Int32) ∧ ((-20 : Int) ≤ (p1).toInt ∧ (p1).toInt ≤ (20 : Int) ∧ (-20 : Int) ≤ (p2).toInt ∧ (p2).toInt ≤ (20 : Int) ∧ (-20 : Int) ≤ (p3).toInt ∧ (p3).toInt ≤ (20 : Int) ∧ (-20 : Int) ≤ (p4).toInt ∧ (p4).toInt ≤ (20 : Int))) ∨ (r_2 = (0 : Int32) ∧ ((p1).toInt < (-20 : Int) ∨ (20 : Int) < (p1).toInt ∨ (p2).toInt < (-20 : Int) ∨ (20 : Int) < (p2).toInt ∨ (p3).toInt < (-20 : Int) ∨ (20 : Int) < (p3).toInt ∨ (p4).toInt < (-20 : Int) ∨ (20 : Int) < (p4).toInt)) := w_3
  · refine lv_if_ne (tgt := 21) hx hb dX11_player_12 (by decide) (fun _ => ?_) (fun c0 => absurd c0 (by decide))
    refine lv_aload_n hx hb dX11_player_21 rfl (lv_at hl 0 rfl) ?_
    refine x_get (own := RX11) (T := TX11) C X 0 rfl rfl 0 (by decide) k_1_15 rfl rfl (v := .ref (x 1)) rfl dX11_player_22 ?_
    refine x_get (own := RX11) (T := TX10) C X 1 rfl rfl 0 (by decide) k_12_1 rfl rfl (v := .int (0 : Int32)) rfl dX11_player_25 ?_
    refine lv_bipush (v := (20 : Int32)) hx hb dX11_player_28 (by decide) ?_
    refine lv_icmp_lt (tgt := 39) hx hb dX11_player_30 (by decide) (fun _ => ?_) (fun c0 => absurd (by decide) c0)
    refine lv_aload_n hx hb dX11_player_39 rfl (lv_at hl 0 rfl) ?_
    refine x_get (own := RX11) (T := TX11) C X 0 rfl rfl 0 (by decide) k_1_15 rfl rfl (v := .ref (x 1)) rfl dX11_player_40 ?_
    refine lv_iload_n hx hb dX11_player_43 rfl (lv_at hl 1 rfl) ?_
    refine lv_iload_n hx hb dX11_player_44 rfl (lv_at hl 2 rfl) ?_
    refine lv_iload_n hx hb dX11_player_45 rfl (lv_at hl 3 rfl) ?_
    refine lv_iload hx hb dX11_player_46 (lv_at hl 4 rfl) ?_
    refine x_cV (own := RX11) (wr := [((x 0), .inr (11, [.ref (x 1), .ref (x 10), .int (0 : Int32), .ref (x 11), .int (0 : Int32), .ref (x 12), .ref (x 34), .ref (x 50), .int (-1 : Int32), .ref (x 66), .ref (x 67), .ref (x 68), .ref (x 76), .ref (x 81), .ref (x 84), .ref (x 89), .ref (x 97)])), ((x 66), .inl (cI, 3, .inl (fun _ => (0 : Int32))))]) (As := [.int p1, .int p2, .int p3, .int p4]) C X hl.1 (c_addPlayer l D cI cJ cZ cB cO (fun k => x (k + 1)) p1 p2 p3 p4) [1, 2] [0, 3] ⟨rfl, rfl, by decide, by decide, by decide⟩ (qb := 0) rfl rfl k_12_12 k_12_13 k_12_14 k_1_14 k_12_15 (n := 4) (by decide +kernel) ⟨Nat.le_of_ble_eq_true rfl, Nat.le_of_ble_eq_true rfl⟩ rfl rfl (Nat.le_of_ble_eq_true rfl) dX11_player_48 ⟨Nat.le_of_ble_eq_true rfl, Nat.le_of_ble_eq_true rfl⟩ (fun r_5 u_4 H locs w_6 X => ?_)
    have X : Wd D A s [((x 0), .inr (11, [.ref (x 1), .ref (x 10), .int (0 : Int32), .ref (x 11), .int (0 : Int32), .ref (x 12), .ref (x 34), .ref (x 50), .int (-1 : Int32), .ref (x 66), .ref (x 67), .ref (x 68), .ref (x 76), .ref (x 81), .ref (x 84), .ref (x 89), .ref (x 97)])), ((x 66), .inl (cI, 3, .inl (fun _ => (0 : Int32))))] H locs := X
    refine W.widen (k := 0) (n := 0) (Nat.le_of_ble_eq_true rfl) (Nat.le_of_ble_eq_true rfl) ?_
    obtain ⟨rfl, fw_6⟩ : r_5 = (0 : Int32) ∧ True := w_6
    exact x_iret C X hr hlk (v := (0 : Int32)) (by first | rfl | decide) (()) [] (by decide) rfl (Or.inl (⟨rfl, by omega⟩)) (Nat.le_of_ble_eq_true rfl) (Nat.le_of_ble_eq_true rfl) dX11_player_51
  · refine lv_if_ne (tgt := 21) hx hb dX11_player_12 (by decide) (fun c0 => absurd (by decide) c0) (fun _ => ?_)
    refine lv_aload_n hx hb dX11_player_15 rfl (lv_at hl 0 rfl) ?_
    refine lv_iconst (v := (0 : Int32)) hx hb dX11_player_16 (by decide) ?_
    refine x_cV (own := RX11) (wr := [((x 1), .inr (10, [.int (0 : Int32), .ref (x 2), .int (0 : Int32), .ref (x 3), .ref (x 4), .int (0 : Int32), .ref (x 5), .ref (x 6), .ref (x 7), .ref (x 8), .ref (x 9), .long (1 : Int64)])), ((x 2), .inl (cI, 80, .inl (fun _ => (0 : Int32))))]) (As := [.int (0 : Int32)]) C X hl.1 (c_refuse l D cI cJ cZ cB cO x) [0, 3] [1, 2] ⟨rfl, rfl, by decide, by decide, by decide⟩ (qb := 0) rfl rfl k_12_8 k_12_9 k_12_10 k_1_2 k_12_11 (n := 1) (by decide +kernel) ⟨Nat.le_of_ble_eq_true rfl, Nat.le_of_ble_eq_true rfl⟩ rfl rfl (Nat.le_of_ble_eq_true rfl) dX11_player_17 ⟨Nat.le_of_ble_eq_true rfl, Nat.le_of_ble_eq_true rfl⟩ (fun r_8 u_7 H locs w_9 X => ?_)
    have X : Wd D A s [((x 1), .inr (10, [.int (0 : Int32), .ref (x 2), .int (0 : Int32), .ref (x 3), .ref (x 4), .int (0 : Int32), .ref (x 5), .ref (x 6), .ref (x 7), .ref (x 8), .ref (x 9), .long (1 : Int64)])), ((x 2), .inl (cI, 80, .inl (fun _ => (0 : Int32))))] H locs := X
    refine W.widen (k := 0) (n := 0) (Nat.le_of_ble_eq_true rfl) (Nat.le_of_ble_eq_true rfl) ?_
    obtain ⟨rfl, fw_9⟩ : r_8 = (-1 : Int32) ∧ True := w_9
    exact x_iret C X hr hlk (v := (-1 : Int32)) (by first | rfl | decide) (()) [] (by decide) rfl (Or.inr (⟨rfl, by omega⟩)) (Nat.le_of_ble_eq_true rfl) (Nat.le_of_ble_eq_true rfl) dX11_player_20
set_option maxHeartbeats 4000000 in
set_option maxRecDepth 100000 in
theorem cx_course (l : Launch) (D : va_G) (cI cJ cZ cB : ClassId) (cO : ClassId) (x : Nat → Nat) (p1 p2 p3 p4 : Int32) :
    CI l D [(cI, .int), (cJ, .long), (cZ, .boolean), (cB, .byte), (cO, .object "LuckLinks$World")] yX11_course cX11_course 5 (some .int) ({ frames := 2, cells := 0, slots := 0, locals := 50 } : Room) [.ref (x 0), .int p1, .int p2, .int p3, .int p4] [((x 0), .inr (11, [.ref (x 1), .ref (x 10), .int (0 : Int32), .ref (x 11), .int (0 : Int32), .ref (x 12), .ref (x 34), .ref (x 50), .int (-1 : Int32), .ref (x 66), .ref (x 67), .ref (x 68), .ref (x 76), .ref (x 81), .ref (x 84), .ref (x 89), .ref (x 97)])), ((x 1), .inr (10, [.int (0 : Int32), .ref (x 2), .int (0 : Int32), .ref (x 3), .ref (x 4), .int (0 : Int32), .ref (x 5), .ref (x 6), .ref (x 7), .ref (x 8), .ref (x 9), .long (1 : Int64)])), ((x 3), .inl (cI, 24, .inl (fun _ => (0 : Int32)))), ((x 66), .inl (cI, 3, .inl (fun _ => (0 : Int32))))] (fun (r : Int32) (u : Unit) => (r = (0 : Int32) ∧ (0 ≤ p1.toInt ∧ p1.toInt ≤ 60 ∧ 0 ≤ p2.toInt ∧ p2.toInt ≤ 60 ∧ 0 ≤ p3.toInt ∧ p3.toInt ≤ 60 ∧ 0 ≤ p4.toInt ∧ p4.toInt ≤ 60)) ∨ (r = (-1 : Int32) ∧ (p1.toInt < 0 ∨ 60 < p1.toInt ∨ p2.toInt < 0 ∨ 60 < p2.toInt ∨ p3.toInt < 0 ∨ 60 < p3.toInt ∨ p4.toInt < 0 ∨ 60 < p4.toInt))) (fun (_ : Unit) => []) := by
  intro sz
  refine body_of (y := yX11_course) (cc := cX11_course) (maxL := 5) (ret := (some .int)) (rm := ({ frames := 2, cells := 0, slots := 0, locals := 50 } : Room)) (wc := [((x 0), .inr (11, [.ref (x 1), .ref (x 10), .int (0 : Int32), .ref (x 11), .int (0 : Int32), .ref (x 12), .ref (x 34), .ref (x 50), .int (-1 : Int32), .ref (x 66), .ref (x 67), .ref (x 68), .ref (x 76), .ref (x 81), .ref (x 84), .ref (x 89), .ref (x 97)])), ((x 1), .inr (10, [.int (0 : Int32), .ref (x 2), .int (0 : Int32), .ref (x 3), .ref (x 4), .int (0 : Int32), .ref (x 5), .ref (x 6), .ref (x 7), .ref (x 8), .ref (x 9), .long (1 : Int64)])), ((x 3), .inl (cI, 24, .inl (fun _ => (0 : Int32)))), ((x 66), .inl (cI, 3, .inl (fun _ => (0 : Int32))))]) (tys := [(cI, .int), (cJ, .long), (cZ, .boolean), (cB, .byte), (cO, .object "LuckLinks$World")]) (D := D) (sz := sz) (own := RX11) (av := [.ref (x 0), .int p1, .int p2, .int p3, .int p4]) (Qc := fun A => va_Qi (fun (r : Int32) (u : Unit) => (r = (0 : Int32) ∧ (0 ≤ p1.toInt ∧ p1.toInt ≤ 60 ∧ 0 ≤ p2.toInt ∧ p2.toInt ≤ 60 ∧ 0 ≤ p3.toInt ∧ p3.toInt ≤ 60 ∧ 0 ≤ p4.toInt ∧ p4.toInt ≤ 60)) ∨ (r = (-1 : Int32) ∧ (p1.toInt < 0 ∨ 60 < p1.toInt ∨ p2.toInt < 0 ∨ 60 < p2.toInt ∨ p3.toInt < 0 ∨ 60 < p3.toInt ∨ p4.toInt < 0 ∨ 60 < p4.toInt))) (fun u t => Aft D A ((fun (_ : Unit) => []) u) t) A) (by decide) rfl (Nat.le_of_ble_eq_true rfl) (fun p e s m below meth c A ls C hr hlk hin X hl => ?_)
  have hx := C.1
  have hb := C.2.1
  have hown := C.2.2.2.1
  have hts := C.2.2.2.2.1
  have hl : lv_has ls 5 [(0, .ref (x 0)), (1, .int p1), (2, .int p2), (3, .int p3), (4, .int p4)] := hl
  show W p l e _ s m _ below meth c s.heap [] 0 0 (MQ below (va_Qi (fun (r : Int32) (u : Unit) => (r = (0 : Int32) ∧ (0 ≤ p1.toInt ∧ p1.toInt ≤ 60 ∧ 0 ≤ p2.toInt ∧ p2.toInt ≤ 60 ∧ 0 ≤ p3.toInt ∧ p3.toInt ≤ 60 ∧ 0 ≤ p4.toInt ∧ p4.toInt ≤ 60)) ∨ (r = (-1 : Int32) ∧ (p1.toInt < 0 ∨ 60 < p1.toInt ∨ p2.toInt < 0 ∨ 60 < p2.toInt ∨ p3.toInt < 0 ∨ 60 < p3.toInt ∨ p4.toInt < 0 ∨ 60 < p4.toInt))) (fun u t => Aft D A ((fun (_ : Unit) => []) u) t) A) ([.ref (x 0), .int p1, .int p2, .int p3, .int p4] : List Value).toArray s 0 0 A) (F0 m 0 ls [])
  have X : Wd D A s [((x 0), .inr (11, [.ref (x 1), .ref (x 10), .int (0 : Int32), .ref (x 11), .int (0 : Int32), .ref (x 12), .ref (x 34), .ref (x 50), .int (-1 : Int32), .ref (x 66), .ref (x 67), .ref (x 68), .ref (x 76), .ref (x 81), .ref (x 84), .ref (x 89), .ref (x 97)])), ((x 1), .inr (10, [.int (0 : Int32), .ref (x 2), .int (0 : Int32), .ref (x 3), .ref (x 4), .int (0 : Int32), .ref (x 5), .ref (x 6), .ref (x 7), .ref (x 8), .ref (x 9), .long (1 : Int64)])), ((x 3), .inl (cI, 24, .inl (fun _ => (0 : Int32)))), ((x 66), .inl (cI, 3, .inl (fun _ => (0 : Int32))))] s.heap [] := X
  obtain ⟨H, locs, eH, eL⟩ : ∃ H locs, H = s.heap ∧ locs = ([] : List Loc) := ⟨_, _, rfl, rfl⟩
  rw [← eH, ← eL] at X ⊢
  clear eH eL
  refine lv_iload_n hx hb dX11_course_0 rfl (lv_at hl 1 rfl) ?_
  refine lv_iload_n hx hb dX11_course_1 rfl (lv_at hl 2 rfl) ?_
  refine lv_iload_n hx hb dX11_course_2 rfl (lv_at hl 3 rfl) ?_
  refine lv_iload hx hb dX11_course_3 (lv_at hl 4 rfl) ?_
  refine lv_iconst (v := (0 : Int32)) hx hb dX11_course_5 (by decide) ?_
  refine lv_bipush (v := (60 : Int32)) hx hb dX11_course_6 (by decide) ?_
  refine x_cS (own := RX11) (wr := [((x 0), .inr (11, [.ref (x 1), .ref (x 10), .int (0 : Int32), .ref (x 11), .int (0 : Int32), .ref (x 12), .ref (x 34), .ref (x 50), .int (-1 : Int32), .ref (x 66), .ref (x 67), .ref (x 68), .ref (x 76), .ref (x 81), .ref (x 84), .ref (x 89), .ref (x 97)])), ((x 1), .inr (10, [.int (0 : Int32), .ref (x 2), .int (0 : Int32), .ref (x 3), .ref (x 4), .int (0 : Int32), .ref (x 5), .ref (x 6), .ref (x 7), .ref (x 8), .ref (x 9), .long (1 : Int64)])), ((x 3), .inl (cI, 24, .inl (fun _ => (0 : Int32)))), ((x 66), .inl (cI, 3, .inl (fun _ => (0 : Int32))))]) (As := [.int p1, .int p2, .int p3, .int p4, .int (0 : Int32), .int (60 : Int32)]) C X hl.1 (c_areBetween l D cI cJ cZ cB cO p1 p2 p3 p4 (0 : Int32) (60 : Int32)) [] [0, 1, 2, 3] ⟨rfl, rfl, by decide, by decide, by decide⟩ k_12_2 k_12_3 k_1_2 k_12_4 (n := 6) (by decide +kernel) ⟨Nat.le_of_ble_eq_true rfl, Nat.le_of_ble_eq_true rfl⟩ rfl rfl (Nat.le_of_ble_eq_true rfl) dX11_course_8 ⟨Nat.le_of_ble_eq_true rfl, Nat.le_of_ble_eq_true rfl⟩ (fun r_2 u_1 H locs w_3 X => ?_)
  have X : Wd D A s [((x 0), .inr (11, [.ref (x 1), .ref (x 10), .int (0 : Int32), .ref (x 11), .int (0 : Int32), .ref (x 12), .ref (x 34), .ref (x 50), .int (-1 : Int32), .ref (x 66), .ref (x 67), .ref (x 68), .ref (x 76), .ref (x 81), .ref (x 84), .ref (x 89), .ref (x 97)])), ((x 1), .inr (10, [.int (0 : Int32), .ref (x 2), .int (0 : Int32), .ref (x 3), .ref (x 4), .int (0 : Int32), .ref (x 5), .ref (x 6), .ref (x 7), .ref (x 8), .ref (x 9), .long (1 : Int64)])), ((x 3), .inl (cI, 24, .inl (fun _ => (0 : Int32)))), ((x 66), .inl (cI, 3, .inl (fun _ => (0 : Int32))))] H locs := X
  refine W.widen (k := 0) (n := 0) (Nat.le_of_ble_eq_true rfl) (Nat.le_of_ble_eq_true rfl) ?_
  obtain ⟨rfl, fw_3⟩ | ⟨rfl, fw_3⟩ : (r_2 = (1 : Int32) ∧ ((0 : Int) ≤ (p1).toInt ∧ (p1).toInt ≤ (60 : Int) ∧ (0 : Int) ≤ (p2).toInt ∧ (p2).toInt ≤ (60 : Int) ∧ (0 : Int) ≤ (p3).toInt ∧ (p3).toInt ≤ (60 : Int) ∧ (0 : Int) ≤ (p4).toInt ∧ (p4).toInt ≤ (60 : Int))) ∨ (r_2 = (0 : Int32) ∧ ((p1).toInt < (0 : Int) ∨ (60 : Int) < (p1).toInt ∨ (p2).toInt < (0 : Int) ∨ (60 : Int) < (p2).toInt ∨ (p3).toInt < (0 : Int) ∨ (60 : Int) < (p3).toInt ∨ (p4).toInt < (0 : Int) ∨ (60 : Int) < (p4).toInt)) := w_3
  · refine lv_if_ne (tgt := 20) hx hb dX11_course_11 (by decide) (fun _ => ?_) (fun c0 => absurd c0 (by decide))
    refine lv_aload_n hx hb dX11_course_20 rfl (lv_at hl 0 rfl) ?_
    refine x_get (own := RX11) (T := TX11) C X 0 rfl rfl 0 (by decide) k_1_15 rfl rfl (v := .ref (x 1)) rfl dX11_course_21 ?_
    refine x_get (own := RX11) (T := TX10) C X 1 rfl rfl 2 (by decide) k_13_10 rfl rfl (v := .int (0 : Int32)) rfl dX11_course_24 ?_
    refine lv_bipush (v := (6 : Int32)) hx hb dX11_course_27 (by decide) ?_
    refine lv_icmp_lt (tgt := 38) hx hb dX11_course_29 (by decide) (fun _ => ?_) (fun c0 => absurd (by decide) c0)
    refine lv_aload_n hx hb dX11_course_38 rfl (lv_at hl 0 rfl) ?_
    refine x_get (own := RX11) (T := TX11) C X 0 rfl rfl 0 (by decide) k_1_15 rfl rfl (v := .ref (x 1)) rfl dX11_course_39 ?_
    refine lv_iload_n hx hb dX11_course_42 rfl (lv_at hl 1 rfl) ?_
    refine lv_iload_n hx hb dX11_course_43 rfl (lv_at hl 2 rfl) ?_
    refine lv_iload_n hx hb dX11_course_44 rfl (lv_at hl 3 rfl) ?_
    refine lv_iload hx hb dX11_course_45 (lv_at hl 4 rfl) ?_
    refine x_cV (own := RX11) (wr := [((x 0), .inr (11, [.ref (x 1), .ref (x 10), .int (0 : Int32), .ref (x 11), .int (0 : Int32), .ref (x 12), .ref (x 34), .ref (x 50), .int (-1 : Int32), .ref (x 66), .ref (x 67), .ref (x 68), .ref (x 76), .ref (x 81), .ref (x 84), .ref (x 89), .ref (x 97)])), ((x 66), .inl (cI, 3, .inl (fun _ => (0 : Int32))))]) (As := [.int p1, .int p2, .int p3, .int p4]) C X hl.1 (c_addCourse l D cI cJ cZ cB cO (fun k => x (k + 1)) p1 p2 p3 p4) [1, 2] [0, 3] ⟨rfl, rfl, by decide, by decide, by decide⟩ (qb := 0) rfl rfl k_13_11 k_13_12 k_13_13 k_1_14 k_13_14 (n := 4) (by decide +kernel) ⟨Nat.le_of_ble_eq_true rfl, Nat.le_of_ble_eq_true rfl⟩ rfl rfl (Nat.le_of_ble_eq_true rfl) dX11_course_47 ⟨Nat.le_of_ble_eq_true rfl, Nat.le_of_ble_eq_true rfl⟩ (fun r_5 u_4 H locs w_6 X => ?_)
    have X : Wd D A s [((x 0), .inr (11, [.ref (x 1), .ref (x 10), .int (0 : Int32), .ref (x 11), .int (0 : Int32), .ref (x 12), .ref (x 34), .ref (x 50), .int (-1 : Int32), .ref (x 66), .ref (x 67), .ref (x 68), .ref (x 76), .ref (x 81), .ref (x 84), .ref (x 89), .ref (x 97)])), ((x 66), .inl (cI, 3, .inl (fun _ => (0 : Int32))))] H locs := X
    refine W.widen (k := 0) (n := 0) (Nat.le_of_ble_eq_true rfl) (Nat.le_of_ble_eq_true rfl) ?_
    obtain ⟨rfl, fw_6⟩ : r_5 = (0 : Int32) ∧ True := w_6
    exact x_iret C X hr hlk (v := (0 : Int32)) (by first | rfl | decide) (()) [] (by decide) rfl (Or.inl (⟨rfl, by omega⟩)) (Nat.le_of_ble_eq_true rfl) (Nat.le_of_ble_eq_true rfl) dX11_course_50
  · refine lv_if_ne (tgt := 20) hx hb dX11_course_11 (by decide) (fun c0 => absurd (by decide) c0) (fun _ => ?_)
    refine lv_aload_n hx hb dX11_course_14 rfl (lv_at hl 0 rfl) ?_
    refine lv_iconst (v := (0 : Int32)) hx hb dX11_course_15 (by decide) ?_
    refine x_cV (own := RX11) (wr := [((x 1), .inr (10, [.int (0 : Int32), .ref (x 2), .int (0 : Int32), .ref (x 3), .ref (x 4), .int (0 : Int32), .ref (x 5), .ref (x 6), .ref (x 7), .ref (x 8), .ref (x 9), .long (1 : Int64)])), ((x 3), .inl (cI, 24, .inl (fun _ => (0 : Int32))))]) (As := [.int (0 : Int32)]) C X hl.1 (c_refuse l D cI cJ cZ cB cO x) [0, 3] [1, 2] ⟨rfl, rfl, by decide, by decide, by decide⟩ (qb := 0) rfl rfl k_12_8 k_12_9 k_12_10 k_1_2 k_12_11 (n := 1) (by decide +kernel) ⟨Nat.le_of_ble_eq_true rfl, Nat.le_of_ble_eq_true rfl⟩ rfl rfl (Nat.le_of_ble_eq_true rfl) dX11_course_16 ⟨Nat.le_of_ble_eq_true rfl, Nat.le_of_ble_eq_true rfl⟩ (fun r_8 u_7 H locs w_9 X => ?_)
    have X : Wd D A s [((x 1), .inr (10, [.int (0 : Int32), .ref (x 2), .int (0 : Int32), .ref (x 3), .ref (x 4), .int (0 : Int32), .ref (x 5), .ref (x 6), .ref (x 7), .ref (x 8), .ref (x 9), .long (1 : Int64)])), ((x 3), .inl (cI, 24, .inl (fun _ => (0 : Int32))))] H locs := X
    refine W.widen (k := 0) (n := 0) (Nat.le_of_ble_eq_true rfl) (Nat.le_of_ble_eq_true rfl) ?_
    obtain ⟨rfl, fw_9⟩ : r_8 = (-1 : Int32) ∧ True := w_9
    exact x_iret C X hr hlk (v := (-1 : Int32)) (by first | rfl | decide) (()) [] (by decide) rfl (Or.inr (⟨rfl, by omega⟩)) (Nat.le_of_ble_eq_true rfl) (Nat.le_of_ble_eq_true rfl) dX11_course_19
set_option maxHeartbeats 4000000 in
set_option maxRecDepth 100000 in
theorem cx_week (l : Launch) (D : va_G) (cI cJ cZ cB : ClassId) (cO : ClassId) (x : Nat → Nat) (p1 p2 : Int32) :
    CI l D [(cI, .int), (cJ, .long), (cZ, .boolean), (cB, .byte), (cO, .object "LuckLinks$World")] yX11_week cX11_week 4 (some .boolean) ({ frames := 2, cells := 0, slots := 0, locals := 42 } : Room) [.ref (x 0), .int p1, .int p2] [((x 0), .inr (11, [.ref (x 1), .ref (x 10), .int (0 : Int32), .ref (x 11), .int (0 : Int32), .ref (x 12), .ref (x 34), .ref (x 50), .int (-1 : Int32), .ref (x 66), .ref (x 67), .ref (x 68), .ref (x 76), .ref (x 81), .ref (x 84), .ref (x 89), .ref (x 97)])), ((x 1), .inr (10, [.int (0 : Int32), .ref (x 2), .int (0 : Int32), .ref (x 3), .ref (x 4), .int (0 : Int32), .ref (x 5), .ref (x 6), .ref (x 7), .ref (x 8), .ref (x 9), .long (1 : Int64)])), ((x 4), .inl (cI, 40, .inl (fun _ => (-1 : Int32)))), ((x 66), .inl (cI, 3, .inl (fun _ => (0 : Int32))))] (fun (r : Int32) (u : Unit) => (r = (0 : Int32) ∧ True)) (fun (_ : Unit) => []) := by
  intro sz
  refine body_of (y := yX11_week) (cc := cX11_week) (maxL := 4) (ret := (some .boolean)) (rm := ({ frames := 2, cells := 0, slots := 0, locals := 42 } : Room)) (wc := [((x 0), .inr (11, [.ref (x 1), .ref (x 10), .int (0 : Int32), .ref (x 11), .int (0 : Int32), .ref (x 12), .ref (x 34), .ref (x 50), .int (-1 : Int32), .ref (x 66), .ref (x 67), .ref (x 68), .ref (x 76), .ref (x 81), .ref (x 84), .ref (x 89), .ref (x 97)])), ((x 1), .inr (10, [.int (0 : Int32), .ref (x 2), .int (0 : Int32), .ref (x 3), .ref (x 4), .int (0 : Int32), .ref (x 5), .ref (x 6), .ref (x 7), .ref (x 8), .ref (x 9), .long (1 : Int64)])), ((x 4), .inl (cI, 40, .inl (fun _ => (-1 : Int32)))), ((x 66), .inl (cI, 3, .inl (fun _ => (0 : Int32))))]) (tys := [(cI, .int), (cJ, .long), (cZ, .boolean), (cB, .byte), (cO, .object "LuckLinks$World")]) (D := D) (sz := sz) (own := RX11) (av := [.ref (x 0), .int p1, .int p2]) (Qc := fun A => va_Qi (fun (r : Int32) (u : Unit) => (r = (0 : Int32) ∧ True)) (fun u t => Aft D A ((fun (_ : Unit) => []) u) t) A) (by decide) rfl (Nat.le_of_ble_eq_true rfl) (fun p e s m below meth c A ls C hr hlk hin X hl => ?_)
  have hx := C.1
  have hb := C.2.1
  have hown := C.2.2.2.1
  have hts := C.2.2.2.2.1
  have hl : lv_has ls 4 [(0, .ref (x 0)), (1, .int p1), (2, .int p2)] := hl
  show W p l e _ s m _ below meth c s.heap [] 0 0 (MQ below (va_Qi (fun (r : Int32) (u : Unit) => (r = (0 : Int32) ∧ True)) (fun u t => Aft D A ((fun (_ : Unit) => []) u) t) A) ([.ref (x 0), .int p1, .int p2] : List Value).toArray s 0 0 A) (F0 m 0 ls [])
  have X : Wd D A s [((x 0), .inr (11, [.ref (x 1), .ref (x 10), .int (0 : Int32), .ref (x 11), .int (0 : Int32), .ref (x 12), .ref (x 34), .ref (x 50), .int (-1 : Int32), .ref (x 66), .ref (x 67), .ref (x 68), .ref (x 76), .ref (x 81), .ref (x 84), .ref (x 89), .ref (x 97)])), ((x 1), .inr (10, [.int (0 : Int32), .ref (x 2), .int (0 : Int32), .ref (x 3), .ref (x 4), .int (0 : Int32), .ref (x 5), .ref (x 6), .ref (x 7), .ref (x 8), .ref (x 9), .long (1 : Int64)])), ((x 4), .inl (cI, 40, .inl (fun _ => (-1 : Int32)))), ((x 66), .inl (cI, 3, .inl (fun _ => (0 : Int32))))] s.heap [] := X
  obtain ⟨H, locs, eH, eL⟩ : ∃ H locs, H = s.heap ∧ locs = ([] : List Loc) := ⟨_, _, rfl, rfl⟩
  rw [← eH, ← eL] at X ⊢
  clear eH eL
  refine lv_iload_n hx hb dX11_week_0 rfl (lv_at hl 1 rfl) ?_
  refine x_cS (own := RX11) (wr := [((x 0), .inr (11, [.ref (x 1), .ref (x 10), .int (0 : Int32), .ref (x 11), .int (0 : Int32), .ref (x 12), .ref (x 34), .ref (x 50), .int (-1 : Int32), .ref (x 66), .ref (x 67), .ref (x 68), .ref (x 76), .ref (x 81), .ref (x 84), .ref (x 89), .ref (x 97)])), ((x 1), .inr (10, [.int (0 : Int32), .ref (x 2), .int (0 : Int32), .ref (x 3), .ref (x 4), .int (0 : Int32), .ref (x 5), .ref (x 6), .ref (x 7), .ref (x 8), .ref (x 9), .long (1 : Int64)])), ((x 4), .inl (cI, 40, .inl (fun _ => (-1 : Int32)))), ((x 66), .inl (cI, 3, .inl (fun _ => (0 : Int32))))]) (As := [.int p1]) C X hl.1 (c_isWeek l D cI cJ cZ cB cO p1) [] [0, 1, 2, 3] ⟨rfl, rfl, by decide, by decide, by decide⟩ k_14_0 k_14_1 k_1_2 k_14_2 (n := 1) (by decide +kernel) ⟨Nat.le_of_ble_eq_true rfl, Nat.le_of_ble_eq_true rfl⟩ rfl rfl (Nat.le_of_ble_eq_true rfl) dX11_week_1 ⟨Nat.le_of_ble_eq_true rfl, Nat.le_of_ble_eq_true rfl⟩ (fun r_2 u_1 H locs w_3 X => ?_)
  have X : Wd D A s [((x 0), .inr (11, [.ref (x 1), .ref (x 10), .int (0 : Int32), .ref (x 11), .int (0 : Int32), .ref (x 12), .ref (x 34), .ref (x 50), .int (-1 : Int32), .ref (x 66), .ref (x 67), .ref (x 68), .ref (x 76), .ref (x 81), .ref (x 84), .ref (x 89), .ref (x 97)])), ((x 1), .inr (10, [.int (0 : Int32), .ref (x 2), .int (0 : Int32), .ref (x 3), .ref (x 4), .int (0 : Int32), .ref (x 5), .ref (x 6), .ref (x 7), .ref (x 8), .ref (x 9), .long (1 : Int64)])), ((x 4), .inl (cI, 40, .inl (fun _ => (-1 : Int32)))), ((x 66), .inl (cI, 3, .inl (fun _ => (0 : Int32))))] H locs := X
  refine W.widen (k := 0) (n := 0) (Nat.le_of_ble_eq_true rfl) (Nat.le_of_ble_eq_true rfl) ?_
  obtain ⟨rfl, fw_3⟩ | ⟨rfl, fw_3⟩ : (r_2 = (1 : Int32) ∧ (0 ≤ (p1).toInt ∧ (p1).toInt ≤ 39)) ∨ (r_2 = (0 : Int32) ∧ ((p1).toInt < 0 ∨ 39 < (p1).toInt)) := w_3
  · refine lv_if_eq (tgt := 40) hx hb dX11_week_4 (by decide) (fun c0 => absurd c0 (by decide)) (fun _ => ?_)
    refine lv_iload_n hx hb dX11_week_7 rfl (lv_at hl 2 rfl) ?_
    refine lv_iconst (v := (0 : Int32)) hx hb dX11_week_8 (by decide) ?_
    refine lv_aload_n hx hb dX11_week_9 rfl (lv_at hl 0 rfl) ?_
    refine x_get (own := RX11) (T := TX11) C X 0 rfl rfl 0 (by decide) k_1_15 rfl rfl (v := .ref (x 1)) rfl dX11_week_10 ?_
    refine x_get (own := RX11) (T := TX10) C X 1 rfl rfl 2 (by decide) k_13_10 rfl rfl (v := .int (0 : Int32)) rfl dX11_week_13 ?_
    refine lv_iconst (v := (1 : Int32)) hx hb dX11_week_16 (by decide) ?_
    refine lv_isub hx hb dX11_week_17 ?_
    refine x_eqi (show (0 : Int32) - (1 : Int32) = (-1 : Int32) from by decide +kernel) ?_
    refine x_cS (own := RX11) (wr := [((x 0), .inr (11, [.ref (x 1), .ref (x 10), .int (0 : Int32), .ref (x 11), .int (0 : Int32), .ref (x 12), .ref (x 34), .ref (x 50), .int (-1 : Int32), .ref (x 66), .ref (x 67), .ref (x 68), .ref (x 76), .ref (x 81), .ref (x 84), .ref (x 89), .ref (x 97)])), ((x 1), .inr (10, [.int (0 : Int32), .ref (x 2), .int (0 : Int32), .ref (x 3), .ref (x 4), .int (0 : Int32), .ref (x 5), .ref (x 6), .ref (x 7), .ref (x 8), .ref (x 9), .long (1 : Int64)])), ((x 4), .inl (cI, 40, .inl (fun _ => (-1 : Int32)))), ((x 66), .inl (cI, 3, .inl (fun _ => (0 : Int32))))]) (As := [.int p2, .int (0 : Int32), .int (-1 : Int32)]) C X hl.1 (c_isBetween l D cI cJ cZ cB cO p2 (0 : Int32) (-1 : Int32)) [] [0, 1, 2, 3] ⟨rfl, rfl, by decide, by decide, by decide⟩ k_12_5 k_12_6 k_1_2 k_12_7 (n := 3) (by decide +kernel) ⟨Nat.le_of_ble_eq_true rfl, Nat.le_of_ble_eq_true rfl⟩ rfl rfl (Nat.le_of_ble_eq_true rfl) dX11_week_18 ⟨Nat.le_of_ble_eq_true rfl, Nat.le_of_ble_eq_true rfl⟩ (fun r_5 u_4 H locs w_6 X => ?_)
    have X : Wd D A s [((x 0), .inr (11, [.ref (x 1), .ref (x 10), .int (0 : Int32), .ref (x 11), .int (0 : Int32), .ref (x 12), .ref (x 34), .ref (x 50), .int (-1 : Int32), .ref (x 66), .ref (x 67), .ref (x 68), .ref (x 76), .ref (x 81), .ref (x 84), .ref (x 89), .ref (x 97)])), ((x 1), .inr (10, [.int (0 : Int32), .ref (x 2), .int (0 : Int32), .ref (x 3), .ref (x 4), .int (0 : Int32), .ref (x 5), .ref (x 6), .ref (x 7), .ref (x 8), .ref (x 9), .long (1 : Int64)])), ((x 4), .inl (cI, 40, .inl (fun _ => (-1 : Int32)))), ((x 66), .inl (cI, 3, .inl (fun _ => (0 : Int32))))] H locs := X
    refine W.widen (k := 0) (n := 0) (Nat.le_of_ble_eq_true rfl) (Nat.le_of_ble_eq_true rfl) ?_
    obtain ⟨rfl, fw_6⟩ | ⟨rfl, fw_6⟩ : (r_5 = (1 : Int32) ∧ ((0 : Int) ≤ (p2).toInt ∧ (p2).toInt ≤ (-1 : Int))) ∨ (r_5 = (0 : Int32) ∧ ((p2).toInt < (0 : Int) ∨ (-1 : Int) < (p2).toInt)) := w_6
    · exfalso; omega
    · refine lv_if_eq (tgt := 40) hx hb dX11_week_21 (by decide) (fun _ => ?_) (fun c0 => absurd (by decide) c0)
      refine lv_iconst (v := (0 : Int32)) hx hb dX11_week_40 (by decide) ?_
      refine lv_istore_n (lv' := [(3, .int (0 : Int32)), (0, .ref (x 0)), (1, .int p1), (2, .int p2)]) hx hb dX11_week_41 rfl hl (by decide) rfl (fun ls hl => ?_)
      refine lv_iload_n hx hb dX11_week_42 rfl (lv_at hl 0 rfl) ?_
      refine lv_if_ne (tgt := 54) hx hb dX11_week_43 (by decide) (fun c0 => absurd (by decide) c0) (fun _ => ?_)
      refine lv_aload_n hx hb dX11_week_46 rfl (lv_at hl 1 rfl) ?_
      refine lv_iconst (v := (0 : Int32)) hx hb dX11_week_47 (by decide) ?_
      refine x_cV (own := RX11) (wr := [((x 1), .inr (10, [.int (0 : Int32), .ref (x 2), .int (0 : Int32), .ref (x 3), .ref (x 4), .int (0 : Int32), .ref (x 5), .ref (x 6), .ref (x 7), .ref (x 8), .ref (x 9), .long (1 : Int64)])), ((x 4), .inl (cI, 40, .inl (fun _ => (-1 : Int32))))]) (As := [.int (0 : Int32)]) C X hl.1 (c_refuse l D cI cJ cZ cB cO x) [0, 3] [1, 2] ⟨rfl, rfl, by decide, by decide, by decide⟩ (qb := 0) rfl rfl k_12_8 k_12_9 k_12_10 k_1_2 k_12_11 (n := 1) (by decide +kernel) ⟨Nat.le_of_ble_eq_true rfl, Nat.le_of_ble_eq_true rfl⟩ rfl rfl (Nat.le_of_ble_eq_true rfl) dX11_week_48 ⟨Nat.le_of_ble_eq_true rfl, Nat.le_of_ble_eq_true rfl⟩ (fun r_8 u_7 H locs w_9 X => ?_)
      have X : Wd D A s [((x 1), .inr (10, [.int (0 : Int32), .ref (x 2), .int (0 : Int32), .ref (x 3), .ref (x 4), .int (0 : Int32), .ref (x 5), .ref (x 6), .ref (x 7), .ref (x 8), .ref (x 9), .long (1 : Int64)])), ((x 4), .inl (cI, 40, .inl (fun _ => (-1 : Int32))))] H locs := X
      refine W.widen (k := 0) (n := 0) (Nat.le_of_ble_eq_true rfl) (Nat.le_of_ble_eq_true rfl) ?_
      obtain ⟨rfl, fw_9⟩ : r_8 = (-1 : Int32) ∧ True := w_9
      refine lv_pop hx hb dX11_week_51 rfl ?_
      refine lv_iconst (v := (0 : Int32)) hx hb dX11_week_52 (by decide) ?_
      exact x_iret C X hr hlk (v := (0 : Int32)) (by first | rfl | decide) (()) [] (by decide) rfl (⟨rfl, trivial⟩) (Nat.le_of_ble_eq_true rfl) (Nat.le_of_ble_eq_true rfl) dX11_week_53
  · refine lv_if_eq (tgt := 40) hx hb dX11_week_4 (by decide) (fun _ => ?_) (fun c0 => absurd (by decide) c0)
    refine lv_iconst (v := (0 : Int32)) hx hb dX11_week_40 (by decide) ?_
    refine lv_istore_n (lv' := [(3, .int (0 : Int32)), (0, .ref (x 0)), (1, .int p1), (2, .int p2)]) hx hb dX11_week_41 rfl hl (by decide) rfl (fun ls hl => ?_)
    refine lv_iload_n hx hb dX11_week_42 rfl (lv_at hl 0 rfl) ?_
    refine lv_if_ne (tgt := 54) hx hb dX11_week_43 (by decide) (fun c0 => absurd (by decide) c0) (fun _ => ?_)
    refine lv_aload_n hx hb dX11_week_46 rfl (lv_at hl 1 rfl) ?_
    refine lv_iconst (v := (0 : Int32)) hx hb dX11_week_47 (by decide) ?_
    refine x_cV (own := RX11) (wr := [((x 1), .inr (10, [.int (0 : Int32), .ref (x 2), .int (0 : Int32), .ref (x 3), .ref (x 4), .int (0 : Int32), .ref (x 5), .ref (x 6), .ref (x 7), .ref (x 8), .ref (x 9), .long (1 : Int64)])), ((x 4), .inl (cI, 40, .inl (fun _ => (-1 : Int32))))]) (As := [.int (0 : Int32)]) C X hl.1 (c_refuse l D cI cJ cZ cB cO x) [0, 3] [1, 2] ⟨rfl, rfl, by decide, by decide, by decide⟩ (qb := 0) rfl rfl k_12_8 k_12_9 k_12_10 k_1_2 k_12_11 (n := 1) (by decide +kernel) ⟨Nat.le_of_ble_eq_true rfl, Nat.le_of_ble_eq_true rfl⟩ rfl rfl (Nat.le_of_ble_eq_true rfl) dX11_week_48 ⟨Nat.le_of_ble_eq_true rfl, Nat.le_of_ble_eq_true rfl⟩ (fun r_11 u_10 H locs w_12 X => ?_)
    have X : Wd D A s [((x 1), .inr (10, [.int (0 : Int32), .ref (x 2), .int (0 : Int32), .ref (x 3), .ref (x 4), .int (0 : Int32), .ref (x 5), .ref (x 6), .ref (x 7), .ref (x 8), .ref (x 9), .long (1 : Int64)])), ((x 4), .inl (cI, 40, .inl (fun _ => (-1 : Int32))))] H locs := X
    refine W.widen (k := 0) (n := 0) (Nat.le_of_ble_eq_true rfl) (Nat.le_of_ble_eq_true rfl) ?_
    obtain ⟨rfl, fw_12⟩ : r_11 = (-1 : Int32) ∧ True := w_12
    refine lv_pop hx hb dX11_week_51 rfl ?_
    refine lv_iconst (v := (0 : Int32)) hx hb dX11_week_52 (by decide) ?_
    exact x_iret C X hr hlk (v := (0 : Int32)) (by first | rfl | decide) (()) [] (by decide) rfl (⟨rfl, trivial⟩) (Nat.le_of_ble_eq_true rfl) (Nat.le_of_ble_eq_true rfl) dX11_week_53
set_option maxHeartbeats 4000000 in
set_option maxRecDepth 100000 in
theorem c_isFree (l : Launch) (D : va_G) (cI cJ cZ cB : ClassId) (cO : ClassId) (w : Nat → Nat) (pl wk tm : Int32) :
    CI l D [(cI, .int), (cJ, .long), (cZ, .boolean), (cB, .byte), (cO, .object "LuckLinks$World")] yX10_isFree cX10_isFree 5 (some .boolean) ({ frames := 1, cells := 0, slots := 0, locals := 21 } : Room) [.ref (w 0), .int pl, .int wk, .int tm] [((w 0), .inr (10, [.int (0 : Int32), .ref (w 1), .int (0 : Int32), .ref (w 2), .ref (w 3), .int (0 : Int32), .ref (w 4), .ref (w 5), .ref (w 6), .ref (w 7), .ref (w 8), .long (1 : Int64)]))] (fun (r : Int32) (u : Unit) => (r = (0 : Int32) ∧ True)) (fun (_ : Unit) => [((w 0), .inr (10, [.int (0 : Int32), .ref (w 1), .int (0 : Int32), .ref (w 2), .ref (w 3), .int (0 : Int32), .ref (w 4), .ref (w 5), .ref (w 6), .ref (w 7), .ref (w 8), .long (1 : Int64)]))]) := by
  intro sz
  refine body_of (y := yX10_isFree) (cc := cX10_isFree) (maxL := 5) (ret := (some .boolean)) (rm := ({ frames := 1, cells := 0, slots := 0, locals := 21 } : Room)) (wc := [((w 0), .inr (10, [.int (0 : Int32), .ref (w 1), .int (0 : Int32), .ref (w 2), .ref (w 3), .int (0 : Int32), .ref (w 4), .ref (w 5), .ref (w 6), .ref (w 7), .ref (w 8), .long (1 : Int64)]))]) (tys := [(cI, .int), (cJ, .long), (cZ, .boolean), (cB, .byte), (cO, .object "LuckLinks$World")]) (D := D) (sz := sz) (own := RX10) (av := [.ref (w 0), .int pl, .int wk, .int tm]) (Qc := fun A => va_Qi (fun (r : Int32) (u : Unit) => (r = (0 : Int32) ∧ True)) (fun u t => Aft D A ((fun (_ : Unit) => [((w 0), .inr (10, [.int (0 : Int32), .ref (w 1), .int (0 : Int32), .ref (w 2), .ref (w 3), .int (0 : Int32), .ref (w 4), .ref (w 5), .ref (w 6), .ref (w 7), .ref (w 8), .long (1 : Int64)]))]) u) t) A) (by decide) rfl (Nat.le_of_ble_eq_true rfl) (fun p e s m below meth c A ls C hr hlk hin X hl => ?_)
  have hx := C.1
  have hb := C.2.1
  have hown := C.2.2.2.1
  have hts := C.2.2.2.2.1
  have hl : lv_has ls 5 [(0, .ref (w 0)), (1, .int pl), (2, .int wk), (3, .int tm)] := hl
  show W p l e _ s m _ below meth c s.heap [] 0 0 (MQ below (va_Qi (fun (r : Int32) (u : Unit) => (r = (0 : Int32) ∧ True)) (fun u t => Aft D A ((fun (_ : Unit) => [((w 0), .inr (10, [.int (0 : Int32), .ref (w 1), .int (0 : Int32), .ref (w 2), .ref (w 3), .int (0 : Int32), .ref (w 4), .ref (w 5), .ref (w 6), .ref (w 7), .ref (w 8), .long (1 : Int64)]))]) u) t) A) ([.ref (w 0), .int pl, .int wk, .int tm] : List Value).toArray s 0 0 A) (F0 m 0 ls [])
  have X : Wd D A s [((w 0), .inr (10, [.int (0 : Int32), .ref (w 1), .int (0 : Int32), .ref (w 2), .ref (w 3), .int (0 : Int32), .ref (w 4), .ref (w 5), .ref (w 6), .ref (w 7), .ref (w 8), .long (1 : Int64)]))] s.heap [] := X
  obtain ⟨H, locs, eH, eL⟩ : ∃ H locs, H = s.heap ∧ locs = ([] : List Loc) := ⟨_, _, rfl, rfl⟩
  rw [← eH, ← eL] at X ⊢
  clear eH eL
  refine lv_aload_n hx hb dX10_isFree_0 rfl (lv_at hl 0 rfl) ?_
  refine lv_iload_n hx hb dX10_isFree_1 rfl (lv_at hl 1 rfl) ?_
  refine x_cV (own := RX10) (wr := []) (As := [.int pl]) C X hl.1 (c_isPlayer l D cI cJ cZ cB cO w pl) [0] [] ⟨rfl, rfl, by decide, by decide, by decide⟩ (qb := 0) rfl rfl k_15_4 k_15_5 k_15_6 k_1_14 k_15_7 (n := 1) (by decide +kernel) ⟨Nat.le_of_ble_eq_true rfl, Nat.le_of_ble_eq_true rfl⟩ rfl rfl (Nat.le_of_ble_eq_true rfl) dX10_isFree_2 ⟨Nat.le_of_ble_eq_true rfl, Nat.le_of_ble_eq_true rfl⟩ (fun r_2 u_1 H locs w_3 X => ?_)
  have X : Wd D A s [((w 0), .inr (10, [.int (0 : Int32), .ref (w 1), .int (0 : Int32), .ref (w 2), .ref (w 3), .int (0 : Int32), .ref (w 4), .ref (w 5), .ref (w 6), .ref (w 7), .ref (w 8), .long (1 : Int64)]))] H locs := X
  refine W.widen (k := 0) (n := 0) (Nat.le_of_ble_eq_true rfl) (Nat.le_of_ble_eq_true rfl) ?_
  obtain ⟨rfl, fw_3⟩ : r_2 = (0 : Int32) ∧ True := w_3
  refine lv_if_eq (tgt := 27) hx hb dX10_isFree_5 (by decide) (fun _ => ?_) (fun c0 => absurd (by decide) c0)
  refine lv_iconst (v := (0 : Int32)) hx hb dX10_isFree_27 (by decide) ?_
  exact x_iret C X hr hlk (v := (0 : Int32)) (by first | rfl | decide) (()) [0] (by decide) rfl (⟨rfl, trivial⟩) (Nat.le_of_ble_eq_true rfl) (Nat.le_of_ble_eq_true rfl) dX10_isFree_28
set_option maxHeartbeats 4000000 in
set_option maxRecDepth 100000 in
theorem cx_round (l : Launch) (D : va_G) (cI cJ cZ cB : ClassId) (cO : ClassId) (x : Nat → Nat) (p1 p2 p3 p4 : Int32) :
    CI l D [(cI, .int), (cJ, .long), (cZ, .boolean), (cB, .byte), (cO, .object "LuckLinks$World")] yX11_round cX11_round 5 (some .int) ({ frames := 2, cells := 0, slots := 0, locals := 45 } : Room) [.ref (x 0), .int p1, .int p2, .int p3, .int p4] [((x 0), .inr (11, [.ref (x 1), .ref (x 10), .int (0 : Int32), .ref (x 11), .int (0 : Int32), .ref (x 12), .ref (x 34), .ref (x 50), .int (-1 : Int32), .ref (x 66), .ref (x 67), .ref (x 68), .ref (x 76), .ref (x 81), .ref (x 84), .ref (x 89), .ref (x 97)])), ((x 1), .inr (10, [.int (0 : Int32), .ref (x 2), .int (0 : Int32), .ref (x 3), .ref (x 4), .int (0 : Int32), .ref (x 5), .ref (x 6), .ref (x 7), .ref (x 8), .ref (x 9), .long (1 : Int64)])), ((x 66), .inl (cI, 3, .inl (fun _ => (0 : Int32))))] (fun (r : Int32) (u : Unit) => (r = (-1 : Int32) ∧ True)) (fun (_ : Unit) => []) := by
  intro sz
  refine body_of (y := yX11_round) (cc := cX11_round) (maxL := 5) (ret := (some .int)) (rm := ({ frames := 2, cells := 0, slots := 0, locals := 45 } : Room)) (wc := [((x 0), .inr (11, [.ref (x 1), .ref (x 10), .int (0 : Int32), .ref (x 11), .int (0 : Int32), .ref (x 12), .ref (x 34), .ref (x 50), .int (-1 : Int32), .ref (x 66), .ref (x 67), .ref (x 68), .ref (x 76), .ref (x 81), .ref (x 84), .ref (x 89), .ref (x 97)])), ((x 1), .inr (10, [.int (0 : Int32), .ref (x 2), .int (0 : Int32), .ref (x 3), .ref (x 4), .int (0 : Int32), .ref (x 5), .ref (x 6), .ref (x 7), .ref (x 8), .ref (x 9), .long (1 : Int64)])), ((x 66), .inl (cI, 3, .inl (fun _ => (0 : Int32))))]) (tys := [(cI, .int), (cJ, .long), (cZ, .boolean), (cB, .byte), (cO, .object "LuckLinks$World")]) (D := D) (sz := sz) (own := RX11) (av := [.ref (x 0), .int p1, .int p2, .int p3, .int p4]) (Qc := fun A => va_Qi (fun (r : Int32) (u : Unit) => (r = (-1 : Int32) ∧ True)) (fun u t => Aft D A ((fun (_ : Unit) => []) u) t) A) (by decide) rfl (Nat.le_of_ble_eq_true rfl) (fun p e s m below meth c A ls C hr hlk hin X hl => ?_)
  have hx := C.1
  have hb := C.2.1
  have hown := C.2.2.2.1
  have hts := C.2.2.2.2.1
  have hl : lv_has ls 5 [(0, .ref (x 0)), (1, .int p1), (2, .int p2), (3, .int p3), (4, .int p4)] := hl
  show W p l e _ s m _ below meth c s.heap [] 0 0 (MQ below (va_Qi (fun (r : Int32) (u : Unit) => (r = (-1 : Int32) ∧ True)) (fun u t => Aft D A ((fun (_ : Unit) => []) u) t) A) ([.ref (x 0), .int p1, .int p2, .int p3, .int p4] : List Value).toArray s 0 0 A) (F0 m 0 ls [])
  have X : Wd D A s [((x 0), .inr (11, [.ref (x 1), .ref (x 10), .int (0 : Int32), .ref (x 11), .int (0 : Int32), .ref (x 12), .ref (x 34), .ref (x 50), .int (-1 : Int32), .ref (x 66), .ref (x 67), .ref (x 68), .ref (x 76), .ref (x 81), .ref (x 84), .ref (x 89), .ref (x 97)])), ((x 1), .inr (10, [.int (0 : Int32), .ref (x 2), .int (0 : Int32), .ref (x 3), .ref (x 4), .int (0 : Int32), .ref (x 5), .ref (x 6), .ref (x 7), .ref (x 8), .ref (x 9), .long (1 : Int64)])), ((x 66), .inl (cI, 3, .inl (fun _ => (0 : Int32))))] s.heap [] := X
  obtain ⟨H, locs, eH, eL⟩ : ∃ H locs, H = s.heap ∧ locs = ([] : List Loc) := ⟨_, _, rfl, rfl⟩
  rw [← eH, ← eL] at X ⊢
  clear eH eL
  refine lv_aload_n hx hb dX11_round_0 rfl (lv_at hl 0 rfl) ?_
  refine x_get (own := RX11) (T := TX11) C X 0 rfl rfl 0 (by decide) k_1_15 rfl rfl (v := .ref (x 1)) rfl dX11_round_1 ?_
  refine lv_iload_n hx hb dX11_round_4 rfl (lv_at hl 1 rfl) ?_
  refine lv_iload_n hx hb dX11_round_5 rfl (lv_at hl 2 rfl) ?_
  refine lv_iload_n hx hb dX11_round_6 rfl (lv_at hl 3 rfl) ?_
  refine x_cV (own := RX11) (wr := [((x 0), .inr (11, [.ref (x 1), .ref (x 10), .int (0 : Int32), .ref (x 11), .int (0 : Int32), .ref (x 12), .ref (x 34), .ref (x 50), .int (-1 : Int32), .ref (x 66), .ref (x 67), .ref (x 68), .ref (x 76), .ref (x 81), .ref (x 84), .ref (x 89), .ref (x 97)])), ((x 66), .inl (cI, 3, .inl (fun _ => (0 : Int32))))]) (As := [.int p1, .int p2, .int p3]) C X hl.1 (c_isFree l D cI cJ cZ cB cO (fun k => x (k + 1)) p1 p2 p3) [1] [0, 2] ⟨rfl, rfl, by decide, by decide, by decide⟩ (qb := 0) rfl rfl k_15_0 k_15_1 k_15_2 k_1_14 k_15_3 (n := 3) (by decide +kernel) ⟨Nat.le_of_ble_eq_true rfl, Nat.le_of_ble_eq_true rfl⟩ rfl rfl (Nat.le_of_ble_eq_true rfl) dX11_round_7 ⟨Nat.le_of_ble_eq_true rfl, Nat.le_of_ble_eq_true rfl⟩ (fun r_2 u_1 H locs w_3 X => ?_)
  have X : Wd D A s [((x 0), .inr (11, [.ref (x 1), .ref (x 10), .int (0 : Int32), .ref (x 11), .int (0 : Int32), .ref (x 12), .ref (x 34), .ref (x 50), .int (-1 : Int32), .ref (x 66), .ref (x 67), .ref (x 68), .ref (x 76), .ref (x 81), .ref (x 84), .ref (x 89), .ref (x 97)])), ((x 66), .inl (cI, 3, .inl (fun _ => (0 : Int32)))), ((x 1), .inr (10, [.int (0 : Int32), .ref (x 2), .int (0 : Int32), .ref (x 3), .ref (x 4), .int (0 : Int32), .ref (x 5), .ref (x 6), .ref (x 7), .ref (x 8), .ref (x 9), .long (1 : Int64)]))] H locs := X
  refine W.widen (k := 0) (n := 0) (Nat.le_of_ble_eq_true rfl) (Nat.le_of_ble_eq_true rfl) ?_
  obtain ⟨rfl, fw_3⟩ : r_2 = (0 : Int32) ∧ True := w_3
  refine lv_if_eq (tgt := 24) hx hb dX11_round_10 (by decide) (fun _ => ?_) (fun c0 => absurd (by decide) c0)
  refine lv_aload_n hx hb dX11_round_24 rfl (lv_at hl 0 rfl) ?_
  refine lv_iconst (v := (0 : Int32)) hx hb dX11_round_25 (by decide) ?_
  refine x_cV (own := RX11) (wr := [((x 1), .inr (10, [.int (0 : Int32), .ref (x 2), .int (0 : Int32), .ref (x 3), .ref (x 4), .int (0 : Int32), .ref (x 5), .ref (x 6), .ref (x 7), .ref (x 8), .ref (x 9), .long (1 : Int64)]))]) (As := [.int (0 : Int32)]) C X hl.1 (c_refuse l D cI cJ cZ cB cO x) [0, 1] [2] ⟨rfl, rfl, by decide, by decide, by decide⟩ (qb := 0) rfl rfl k_12_8 k_12_9 k_12_10 k_1_2 k_12_11 (n := 1) (by decide +kernel) ⟨Nat.le_of_ble_eq_true rfl, Nat.le_of_ble_eq_true rfl⟩ rfl rfl (Nat.le_of_ble_eq_true rfl) dX11_round_26 ⟨Nat.le_of_ble_eq_true rfl, Nat.le_of_ble_eq_true rfl⟩ (fun r_5 u_4 H locs w_6 X => ?_)
  have X : Wd D A s [((x 1), .inr (10, [.int (0 : Int32), .ref (x 2), .int (0 : Int32), .ref (x 3), .ref (x 4), .int (0 : Int32), .ref (x 5), .ref (x 6), .ref (x 7), .ref (x 8), .ref (x 9), .long (1 : Int64)]))] H locs := X
  refine W.widen (k := 0) (n := 0) (Nat.le_of_ble_eq_true rfl) (Nat.le_of_ble_eq_true rfl) ?_
  obtain ⟨rfl, fw_6⟩ : r_5 = (-1 : Int32) ∧ True := w_6
  exact x_iret C X hr hlk (v := (-1 : Int32)) (by first | rfl | decide) (()) [] (by decide) rfl (⟨rfl, trivial⟩) (Nat.le_of_ble_eq_true rfl) (Nat.le_of_ble_eq_true rfl) dX11_round_29
set_option maxHeartbeats 4000000 in
set_option maxRecDepth 100000 in
theorem cx_bet (l : Launch) (D : va_G) (cI cJ cZ cB : ClassId) (cO : ClassId) (x : Nat → Nat) (p1 p2 p3 : Int32) :
    CI l D [(cI, .int), (cJ, .long), (cZ, .boolean), (cB, .byte), (cO, .object "LuckLinks$World")] yX11_bet cX11_bet 4 (some .boolean) ({ frames := 1, cells := 0, slots := 0, locals := 21 } : Room) [.ref (x 0), .int p1, .int p2, .int p3] [((x 0), .inr (11, [.ref (x 1), .ref (x 10), .int (0 : Int32), .ref (x 11), .int (0 : Int32), .ref (x 12), .ref (x 34), .ref (x 50), .int (-1 : Int32), .ref (x 66), .ref (x 67), .ref (x 68), .ref (x 76), .ref (x 81), .ref (x 84), .ref (x 89), .ref (x 97)])), ((x 1), .inr (10, [.int (0 : Int32), .ref (x 2), .int (0 : Int32), .ref (x 3), .ref (x 4), .int (0 : Int32), .ref (x 5), .ref (x 6), .ref (x 7), .ref (x 8), .ref (x 9), .long (1 : Int64)])), ((x 66), .inl (cI, 3, .inl (fun _ => (0 : Int32))))] (fun (r : Int32) (u : Unit) => (r = (0 : Int32) ∧ True)) (fun (_ : Unit) => []) := by
  intro sz
  refine body_of (y := yX11_bet) (cc := cX11_bet) (maxL := 4) (ret := (some .boolean)) (rm := ({ frames := 1, cells := 0, slots := 0, locals := 21 } : Room)) (wc := [((x 0), .inr (11, [.ref (x 1), .ref (x 10), .int (0 : Int32), .ref (x 11), .int (0 : Int32), .ref (x 12), .ref (x 34), .ref (x 50), .int (-1 : Int32), .ref (x 66), .ref (x 67), .ref (x 68), .ref (x 76), .ref (x 81), .ref (x 84), .ref (x 89), .ref (x 97)])), ((x 1), .inr (10, [.int (0 : Int32), .ref (x 2), .int (0 : Int32), .ref (x 3), .ref (x 4), .int (0 : Int32), .ref (x 5), .ref (x 6), .ref (x 7), .ref (x 8), .ref (x 9), .long (1 : Int64)])), ((x 66), .inl (cI, 3, .inl (fun _ => (0 : Int32))))]) (tys := [(cI, .int), (cJ, .long), (cZ, .boolean), (cB, .byte), (cO, .object "LuckLinks$World")]) (D := D) (sz := sz) (own := RX11) (av := [.ref (x 0), .int p1, .int p2, .int p3]) (Qc := fun A => va_Qi (fun (r : Int32) (u : Unit) => (r = (0 : Int32) ∧ True)) (fun u t => Aft D A ((fun (_ : Unit) => []) u) t) A) (by decide) rfl (Nat.le_of_ble_eq_true rfl) (fun p e s m below meth c A ls C hr hlk hin X hl => ?_)
  have hx := C.1
  have hb := C.2.1
  have hown := C.2.2.2.1
  have hts := C.2.2.2.2.1
  have hl : lv_has ls 4 [(0, .ref (x 0)), (1, .int p1), (2, .int p2), (3, .int p3)] := hl
  show W p l e _ s m _ below meth c s.heap [] 0 0 (MQ below (va_Qi (fun (r : Int32) (u : Unit) => (r = (0 : Int32) ∧ True)) (fun u t => Aft D A ((fun (_ : Unit) => []) u) t) A) ([.ref (x 0), .int p1, .int p2, .int p3] : List Value).toArray s 0 0 A) (F0 m 0 ls [])
  have X : Wd D A s [((x 0), .inr (11, [.ref (x 1), .ref (x 10), .int (0 : Int32), .ref (x 11), .int (0 : Int32), .ref (x 12), .ref (x 34), .ref (x 50), .int (-1 : Int32), .ref (x 66), .ref (x 67), .ref (x 68), .ref (x 76), .ref (x 81), .ref (x 84), .ref (x 89), .ref (x 97)])), ((x 1), .inr (10, [.int (0 : Int32), .ref (x 2), .int (0 : Int32), .ref (x 3), .ref (x 4), .int (0 : Int32), .ref (x 5), .ref (x 6), .ref (x 7), .ref (x 8), .ref (x 9), .long (1 : Int64)])), ((x 66), .inl (cI, 3, .inl (fun _ => (0 : Int32))))] s.heap [] := X
  obtain ⟨H, locs, eH, eL⟩ : ∃ H locs, H = s.heap ∧ locs = ([] : List Loc) := ⟨_, _, rfl, rfl⟩
  rw [← eH, ← eL] at X ⊢
  clear eH eL
  refine lv_aload_n hx hb dX11_bet_0 rfl (lv_at hl 0 rfl) ?_
  refine x_get (own := RX11) (T := TX11) C X 0 rfl rfl 0 (by decide) k_1_15 rfl rfl (v := .ref (x 1)) rfl dX11_bet_1 ?_
  refine lv_iload_n hx hb dX11_bet_4 rfl (lv_at hl 1 rfl) ?_
  refine x_cV (own := RX11) (wr := [((x 0), .inr (11, [.ref (x 1), .ref (x 10), .int (0 : Int32), .ref (x 11), .int (0 : Int32), .ref (x 12), .ref (x 34), .ref (x 50), .int (-1 : Int32), .ref (x 66), .ref (x 67), .ref (x 68), .ref (x 76), .ref (x 81), .ref (x 84), .ref (x 89), .ref (x 97)])), ((x 66), .inl (cI, 3, .inl (fun _ => (0 : Int32))))]) (As := [.int p1]) C X hl.1 (c_isPlayer l D cI cJ cZ cB cO (fun k => x (k + 1)) p1) [1] [0, 2] ⟨rfl, rfl, by decide, by decide, by decide⟩ (qb := 0) rfl rfl k_17_3 k_15_5 k_15_6 k_1_14 k_15_7 (n := 1) (by decide +kernel) ⟨Nat.le_of_ble_eq_true rfl, Nat.le_of_ble_eq_true rfl⟩ rfl rfl (Nat.le_of_ble_eq_true rfl) dX11_bet_5 ⟨Nat.le_of_ble_eq_true rfl, Nat.le_of_ble_eq_true rfl⟩ (fun r_2 u_1 H locs w_3 X => ?_)
  have X : Wd D A s [((x 0), .inr (11, [.ref (x 1), .ref (x 10), .int (0 : Int32), .ref (x 11), .int (0 : Int32), .ref (x 12), .ref (x 34), .ref (x 50), .int (-1 : Int32), .ref (x 66), .ref (x 67), .ref (x 68), .ref (x 76), .ref (x 81), .ref (x 84), .ref (x 89), .ref (x 97)])), ((x 66), .inl (cI, 3, .inl (fun _ => (0 : Int32)))), ((x 1), .inr (10, [.int (0 : Int32), .ref (x 2), .int (0 : Int32), .ref (x 3), .ref (x 4), .int (0 : Int32), .ref (x 5), .ref (x 6), .ref (x 7), .ref (x 8), .ref (x 9), .long (1 : Int64)]))] H locs := X
  refine W.widen (k := 0) (n := 0) (Nat.le_of_ble_eq_true rfl) (Nat.le_of_ble_eq_true rfl) ?_
  obtain ⟨rfl, fw_3⟩ : r_2 = (0 : Int32) ∧ True := w_3
  refine lv_if_eq (tgt := 31) hx hb dX11_bet_8 (by decide) (fun _ => ?_) (fun c0 => absurd (by decide) c0)
  refine lv_aload_n hx hb dX11_bet_31 rfl (lv_at hl 0 rfl) ?_
  refine lv_iconst (v := (0 : Int32)) hx hb dX11_bet_32 (by decide) ?_
  refine x_cV (own := RX11) (wr := [((x 1), .inr (10, [.int (0 : Int32), .ref (x 2), .int (0 : Int32), .ref (x 3), .ref (x 4), .int (0 : Int32), .ref (x 5), .ref (x 6), .ref (x 7), .ref (x 8), .ref (x 9), .long (1 : Int64)]))]) (As := [.int (0 : Int32)]) C X hl.1 (c_refuse l D cI cJ cZ cB cO x) [0, 1] [2] ⟨rfl, rfl, by decide, by decide, by decide⟩ (qb := 0) rfl rfl k_12_8 k_12_9 k_12_10 k_1_2 k_12_11 (n := 1) (by decide +kernel) ⟨Nat.le_of_ble_eq_true rfl, Nat.le_of_ble_eq_true rfl⟩ rfl rfl (Nat.le_of_ble_eq_true rfl) dX11_bet_33 ⟨Nat.le_of_ble_eq_true rfl, Nat.le_of_ble_eq_true rfl⟩ (fun r_5 u_4 H locs w_6 X => ?_)
  have X : Wd D A s [((x 1), .inr (10, [.int (0 : Int32), .ref (x 2), .int (0 : Int32), .ref (x 3), .ref (x 4), .int (0 : Int32), .ref (x 5), .ref (x 6), .ref (x 7), .ref (x 8), .ref (x 9), .long (1 : Int64)]))] H locs := X
  refine W.widen (k := 0) (n := 0) (Nat.le_of_ble_eq_true rfl) (Nat.le_of_ble_eq_true rfl) ?_
  obtain ⟨rfl, fw_6⟩ : r_5 = (-1 : Int32) ∧ True := w_6
  refine lv_pop hx hb dX11_bet_36 rfl ?_
  refine lv_iconst (v := (0 : Int32)) hx hb dX11_bet_37 (by decide) ?_
  exact x_iret C X hr hlk (v := (0 : Int32)) (by first | rfl | decide) (()) [] (by decide) rfl (⟨rfl, trivial⟩) (Nat.le_of_ble_eq_true rfl) (Nat.le_of_ble_eq_true rfl) dX11_bet_38
set_option maxHeartbeats 4000000 in
set_option maxRecDepth 100000 in
theorem cx_seed (l : Launch) (D : va_G) (cI cJ cZ cB : ClassId) (cO : ClassId) (x : Nat → Nat) (p1 : Int32) :
    CI l D [(cI, .int), (cJ, .long), (cZ, .boolean), (cB, .byte), (cO, .object "LuckLinks$World")] yX11_seed cX11_seed 2 (some .boolean) ({ frames := 1, cells := 0, slots := 0, locals := 22 } : Room) [.ref (x 0), .int p1] [((x 0), .inr (11, [.ref (x 1), .ref (x 10), .int (0 : Int32), .ref (x 11), .int (0 : Int32), .ref (x 12), .ref (x 34), .ref (x 50), .int (-1 : Int32), .ref (x 66), .ref (x 67), .ref (x 68), .ref (x 76), .ref (x 81), .ref (x 84), .ref (x 89), .ref (x 97)])), ((x 1), .inr (10, [.int (0 : Int32), .ref (x 2), .int (0 : Int32), .ref (x 3), .ref (x 4), .int (0 : Int32), .ref (x 5), .ref (x 6), .ref (x 7), .ref (x 8), .ref (x 9), .long (1 : Int64)])), ((x 66), .inl (cI, 3, .inl (fun _ => (0 : Int32))))] (fun (r : Int32) (u : Unit) => (r = (1 : Int32) ∧ (0 ≤ p1.toInt ∧ p1.toInt ≤ 999999999)) ∨ (r = (0 : Int32) ∧ (p1.toInt < 0 ∨ 999999999 < p1.toInt))) (fun (_ : Unit) => []) := by
  intro sz
  refine body_of (y := yX11_seed) (cc := cX11_seed) (maxL := 2) (ret := (some .boolean)) (rm := ({ frames := 1, cells := 0, slots := 0, locals := 22 } : Room)) (wc := [((x 0), .inr (11, [.ref (x 1), .ref (x 10), .int (0 : Int32), .ref (x 11), .int (0 : Int32), .ref (x 12), .ref (x 34), .ref (x 50), .int (-1 : Int32), .ref (x 66), .ref (x 67), .ref (x 68), .ref (x 76), .ref (x 81), .ref (x 84), .ref (x 89), .ref (x 97)])), ((x 1), .inr (10, [.int (0 : Int32), .ref (x 2), .int (0 : Int32), .ref (x 3), .ref (x 4), .int (0 : Int32), .ref (x 5), .ref (x 6), .ref (x 7), .ref (x 8), .ref (x 9), .long (1 : Int64)])), ((x 66), .inl (cI, 3, .inl (fun _ => (0 : Int32))))]) (tys := [(cI, .int), (cJ, .long), (cZ, .boolean), (cB, .byte), (cO, .object "LuckLinks$World")]) (D := D) (sz := sz) (own := RX11) (av := [.ref (x 0), .int p1]) (Qc := fun A => va_Qi (fun (r : Int32) (u : Unit) => (r = (1 : Int32) ∧ (0 ≤ p1.toInt ∧ p1.toInt ≤ 999999999)) ∨ (r = (0 : Int32) ∧ (p1.toInt < 0 ∨ 999999999 < p1.toInt))) (fun u t => Aft D A ((fun (_ : Unit) => []) u) t) A) (by decide) rfl (Nat.le_of_ble_eq_true rfl) (fun p e s m below meth c A ls C hr hlk hin X hl => ?_)
  have hx := C.1
  have hb := C.2.1
  have hown := C.2.2.2.1
  have hts := C.2.2.2.2.1
  have hl : lv_has ls 2 [(0, .ref (x 0)), (1, .int p1)] := hl
  show W p l e _ s m _ below meth c s.heap [] 0 0 (MQ below (va_Qi (fun (r : Int32) (u : Unit) => (r = (1 : Int32) ∧ (0 ≤ p1.toInt ∧ p1.toInt ≤ 999999999)) ∨ (r = (0 : Int32) ∧ (p1.toInt < 0 ∨ 999999999 < p1.toInt))) (fun u t => Aft D A ((fun (_ : Unit) => []) u) t) A) ([.ref (x 0), .int p1] : List Value).toArray s 0 0 A) (F0 m 0 ls [])
  have X : Wd D A s [((x 0), .inr (11, [.ref (x 1), .ref (x 10), .int (0 : Int32), .ref (x 11), .int (0 : Int32), .ref (x 12), .ref (x 34), .ref (x 50), .int (-1 : Int32), .ref (x 66), .ref (x 67), .ref (x 68), .ref (x 76), .ref (x 81), .ref (x 84), .ref (x 89), .ref (x 97)])), ((x 1), .inr (10, [.int (0 : Int32), .ref (x 2), .int (0 : Int32), .ref (x 3), .ref (x 4), .int (0 : Int32), .ref (x 5), .ref (x 6), .ref (x 7), .ref (x 8), .ref (x 9), .long (1 : Int64)])), ((x 66), .inl (cI, 3, .inl (fun _ => (0 : Int32))))] s.heap [] := X
  obtain ⟨H, locs, eH, eL⟩ : ∃ H locs, H = s.heap ∧ locs = ([] : List Loc) := ⟨_, _, rfl, rfl⟩
  rw [← eH, ← eL] at X ⊢
  clear eH eL
  refine lv_iload_n hx hb dX11_seed_0 rfl (lv_at hl 1 rfl) ?_
  refine lv_iconst (v := (0 : Int32)) hx hb dX11_seed_1 (by decide) ?_
  refine lv_ldc (own := RX11) (v := (999999999 : Int32)) hx hb hown (hts _ k_17_16) dX11_seed_2 ?_
  refine x_cS (own := RX11) (wr := [((x 0), .inr (11, [.ref (x 1), .ref (x 10), .int (0 : Int32), .ref (x 11), .int (0 : Int32), .ref (x 12), .ref (x 34), .ref (x 50), .int (-1 : Int32), .ref (x 66), .ref (x 67), .ref (x 68), .ref (x 76), .ref (x 81), .ref (x 84), .ref (x 89), .ref (x 97)])), ((x 1), .inr (10, [.int (0 : Int32), .ref (x 2), .int (0 : Int32), .ref (x 3), .ref (x 4), .int (0 : Int32), .ref (x 5), .ref (x 6), .ref (x 7), .ref (x 8), .ref (x 9), .long (1 : Int64)])), ((x 66), .inl (cI, 3, .inl (fun _ => (0 : Int32))))]) (As := [.int p1, .int (0 : Int32), .int (999999999 : Int32)]) C X hl.1 (c_isBetween l D cI cJ cZ cB cO p1 (0 : Int32) (999999999 : Int32)) [] [0, 1, 2] ⟨rfl, rfl, by decide, by decide, by decide⟩ k_12_5 k_12_6 k_1_2 k_12_7 (n := 3) (by decide +kernel) ⟨Nat.le_of_ble_eq_true rfl, Nat.le_of_ble_eq_true rfl⟩ rfl rfl (Nat.le_of_ble_eq_true rfl) dX11_seed_4 ⟨Nat.le_of_ble_eq_true rfl, Nat.le_of_ble_eq_true rfl⟩ (fun r_2 u_1 H locs w_3 X => ?_)
  have X : Wd D A s [((x 0), .inr (11, [.ref (x 1), .ref (x 10), .int (0 : Int32), .ref (x 11), .int (0 : Int32), .ref (x 12), .ref (x 34), .ref (x 50), .int (-1 : Int32), .ref (x 66), .ref (x 67), .ref (x 68), .ref (x 76), .ref (x 81), .ref (x 84), .ref (x 89), .ref (x 97)])), ((x 1), .inr (10, [.int (0 : Int32), .ref (x 2), .int (0 : Int32), .ref (x 3), .ref (x 4), .int (0 : Int32), .ref (x 5), .ref (x 6), .ref (x 7), .ref (x 8), .ref (x 9), .long (1 : Int64)])), ((x 66), .inl (cI, 3, .inl (fun _ => (0 : Int32))))] H locs := X
  refine W.widen (k := 0) (n := 0) (Nat.le_of_ble_eq_true rfl) (Nat.le_of_ble_eq_true rfl) ?_
  obtain ⟨rfl, fw_3⟩ | ⟨rfl, fw_3⟩ : (r_2 = (1 : Int32) ∧ ((0 : Int) ≤ (p1).toInt ∧ (p1).toInt ≤ (999999999 : Int))) ∨ (r_2 = (0 : Int32) ∧ ((p1).toInt < (0 : Int) ∨ (999999999 : Int) < (p1).toInt)) := w_3
  · refine lv_if_ne (tgt := 18) hx hb dX11_seed_7 (by decide) (fun _ => ?_) (fun c0 => absurd c0 (by decide))
    refine lv_aload_n hx hb dX11_seed_18 rfl (lv_at hl 0 rfl) ?_
    refine x_get (own := RX11) (T := TX11) C X 0 rfl rfl 0 (by decide) k_1_15 rfl rfl (v := .ref (x 1)) rfl dX11_seed_19 ?_
    refine lv_iload_n hx hb dX11_seed_22 rfl (lv_at hl 1 rfl) ?_
    refine lv_i2l (v := (p1).toInt64) hx hb dX11_seed_23 (rfl) ?_
    refine x_put (own := RX11) (T := TX10) C X 1 rfl rfl 11 (by decide) k_17_17 rfl rfl rfl (ty := .long) (v := .long (p1).toInt64) (by decide +kernel) rfl rfl (Nat.le_of_ble_eq_true rfl) dX11_seed_24 (fun H locs X => ?_)
    have X : Wd D A s [((x 0), .inr (11, [.ref (x 1), .ref (x 10), .int (0 : Int32), .ref (x 11), .int (0 : Int32), .ref (x 12), .ref (x 34), .ref (x 50), .int (-1 : Int32), .ref (x 66), .ref (x 67), .ref (x 68), .ref (x 76), .ref (x 81), .ref (x 84), .ref (x 89), .ref (x 97)])), ((x 1), .inr (10, [.int (0 : Int32), .ref (x 2), .int (0 : Int32), .ref (x 3), .ref (x 4), .int (0 : Int32), .ref (x 5), .ref (x 6), .ref (x 7), .ref (x 8), .ref (x 9), .long (p1).toInt64])), ((x 66), .inl (cI, 3, .inl (fun _ => (0 : Int32))))] H locs := X
    refine lv_iconst (v := (1 : Int32)) hx hb dX11_seed_27 (by decide) ?_
    exact x_iret C X hr hlk (v := (1 : Int32)) (by first | rfl | decide) (()) [] (by decide) rfl (Or.inl (⟨rfl, by omega⟩)) (Nat.le_of_ble_eq_true rfl) (Nat.le_of_ble_eq_true rfl) dX11_seed_28
  · refine lv_if_ne (tgt := 18) hx hb dX11_seed_7 (by decide) (fun c0 => absurd (by decide) c0) (fun _ => ?_)
    refine lv_aload_n hx hb dX11_seed_10 rfl (lv_at hl 0 rfl) ?_
    refine lv_iconst (v := (0 : Int32)) hx hb dX11_seed_11 (by decide) ?_
    refine x_cV (own := RX11) (wr := [((x 1), .inr (10, [.int (0 : Int32), .ref (x 2), .int (0 : Int32), .ref (x 3), .ref (x 4), .int (0 : Int32), .ref (x 5), .ref (x 6), .ref (x 7), .ref (x 8), .ref (x 9), .long (1 : Int64)]))]) (As := [.int (0 : Int32)]) C X hl.1 (c_refuse l D cI cJ cZ cB cO x) [0, 2] [1] ⟨rfl, rfl, by decide, by decide, by decide⟩ (qb := 0) rfl rfl k_12_8 k_12_9 k_12_10 k_1_2 k_12_11 (n := 1) (by decide +kernel) ⟨Nat.le_of_ble_eq_true rfl, Nat.le_of_ble_eq_true rfl⟩ rfl rfl (Nat.le_of_ble_eq_true rfl) dX11_seed_12 ⟨Nat.le_of_ble_eq_true rfl, Nat.le_of_ble_eq_true rfl⟩ (fun r_5 u_4 H locs w_6 X => ?_)
    have X : Wd D A s [((x 1), .inr (10, [.int (0 : Int32), .ref (x 2), .int (0 : Int32), .ref (x 3), .ref (x 4), .int (0 : Int32), .ref (x 5), .ref (x 6), .ref (x 7), .ref (x 8), .ref (x 9), .long (1 : Int64)]))] H locs := X
    refine W.widen (k := 0) (n := 0) (Nat.le_of_ble_eq_true rfl) (Nat.le_of_ble_eq_true rfl) ?_
    obtain ⟨rfl, fw_6⟩ : r_5 = (-1 : Int32) ∧ True := w_6
    refine lv_pop hx hb dX11_seed_15 rfl ?_
    refine lv_iconst (v := (0 : Int32)) hx hb dX11_seed_16 (by decide) ?_
    exact x_iret C X hr hlk (v := (0 : Int32)) (by first | rfl | decide) (()) [] (by decide) rfl (Or.inr (⟨rfl, by omega⟩)) (Nat.le_of_ble_eq_true rfl) (Nat.le_of_ble_eq_true rfl) dX11_seed_17
