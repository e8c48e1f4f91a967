theorem k_36_5 : Cond.methodLink RX12 378 yX12_bitsOf ∈ wsL_law := mr_36 _ (List.mem_of_getElem? (i := 5) rfl)
theorem k_36_6 : Cond.static yX12_bitsOf ∈ wsL_law := mr_36 _ (List.mem_of_getElem? (i := 6) rfl)
theorem k_36_7 : Cond.code yX12_bitsOf cX12_bitsOf 3 (some .int) ∈ wsL_law := mr_36 _ (List.mem_of_getElem? (i := 7) rfl)
theorem k_39_2 : Cond.methodLink RX12 387 yX12_partOf ∈ wsL_law := mr_39 _ (List.mem_of_getElem? (i := 2) rfl)
theorem k_39_3 : Cond.static yX12_partOf ∈ wsL_law := mr_39 _ (List.mem_of_getElem? (i := 3) rfl)
theorem k_39_4 : Cond.code yX12_partOf cX12_partOf 1 (some .int) ∈ wsL_law := mr_39 _ (List.mem_of_getElem? (i := 4) rfl)
theorem k_45_5 : Cond.methodLink RX12 423 yX12_isPart ∈ wsL_law := mr_45 _ (List.mem_of_getElem? (i := 5) rfl)
theorem k_45_6 : Cond.static yX12_isPart ∈ wsL_law := mr_45 _ (List.mem_of_getElem? (i := 6) rfl)
theorem k_45_7 : Cond.code yX12_isPart cX12_isPart 1 (some .boolean) ∈ wsL_law := mr_45 _ (List.mem_of_getElem? (i := 7) rfl)
theorem k_46_10 : Cond.instanceMethod yX12_leadsIn ∈ wsL_law := mr_46 _ (List.mem_of_getElem? (i := 10) rfl)
theorem k_46_11 : Cond.selects RX12 yX12_leadsIn yX12_leadsIn ∈ wsL_law := mr_46 _ (List.mem_of_getElem? (i := 11) rfl)
theorem k_46_12 : Cond.code yX12_leadsIn cX12_leadsIn 11 none ∈ wsL_law := mr_46 _ (List.mem_of_getElem? (i := 12) rfl)
theorem k_46_5 : Cond.constant RX12 439 (-1000000000) ∈ wsL_law := mr_46 _ (List.mem_of_getElem? (i := 5) rfl)
theorem k_46_6 : Cond.fieldLink RX12 433 "LuckLinksModel" "lead" "I" ∈ wsL_law := mr_46 _ (List.mem_of_getElem? (i := 6) rfl)
theorem k_46_7 : Cond.fieldLink RX12 436 "LuckLinksModel" "nextLead" "I" ∈ wsL_law := mr_46 _ (List.mem_of_getElem? (i := 7) rfl)
theorem k_46_8 : Cond.fieldLink RX12 430 "LuckLinksModel" "leaders" "I" ∈ wsL_law := mr_46 _ (List.mem_of_getElem? (i := 8) rfl)
theorem k_46_9 : Cond.methodLink RX12 440 yX12_leadsIn ∈ wsL_law := mr_46 _ (List.mem_of_getElem? (i := 9) rfl)
theorem k_48_14 : Cond.methodLink RX12 453 yX12_isAhead ∈ wsL_law := mr_48 _ (List.mem_of_getElem? (i := 14) rfl)
theorem k_48_15 : Cond.static yX12_isAhead ∈ wsL_law := mr_48 _ (List.mem_of_getElem? (i := 15) rfl)
theorem k_48_16 : Cond.code yX12_isAhead cX12_isAhead 1 (some .boolean) ∈ wsL_law := mr_48 _ (List.mem_of_getElem? (i := 16) rfl)
theorem k_50_20 : Cond.methodLink RX12 467 yX12_bestOf ∈ wsL_law := mr_50 _ (List.mem_of_getElem? (i := 20) rfl)
theorem k_50_21 : Cond.instanceMethod yX12_bestOf ∈ wsL_law := mr_50 _ (List.mem_of_getElem? (i := 21) rfl)
theorem k_50_22 : Cond.selects RX12 yX12_bestOf yX12_bestOf ∈ wsL_law := mr_50 _ (List.mem_of_getElem? (i := 22) rfl)
theorem k_50_23 : Cond.code yX12_bestOf cX12_bestOf 8 (some .int) ∈ wsL_law := mr_50 _ (List.mem_of_getElem? (i := 23) rfl)
theorem k_56_18 : Cond.methodLink RX12 489 yX12_areHalves ∈ wsL_law := mr_56 _ (List.mem_of_getElem? (i := 18) rfl)
theorem k_56_19 : Cond.static yX12_areHalves ∈ wsL_law := mr_56 _ (List.mem_of_getElem? (i := 19) rfl)
theorem k_56_20 : Cond.code yX12_areHalves cX12_areHalves 3 (some .boolean) ∈ wsL_law := mr_56 _ (List.mem_of_getElem? (i := 20) rfl)
theorem k_56_21 : Cond.methodLink RX12 492 yX12_lastsBy ∈ wsL_law := mr_56 _ (List.mem_of_getElem? (i := 21) rfl)
theorem k_56_22 : Cond.instanceMethod yX12_lastsBy ∈ wsL_law := mr_56 _ (List.mem_of_getElem? (i := 22) rfl)
theorem k_56_23 : Cond.selects RX12 yX12_lastsBy yX12_lastsBy ∈ wsL_law := mr_56 _ (List.mem_of_getElem? (i := 23) rfl)
theorem k_57_0 : Cond.code yX12_lastsBy cX12_lastsBy 12 (some .int) ∈ wsL_law := mr_57 _ (List.mem_of_getElem? (i := 0) rfl)
theorem k_57_1 : Cond.methodLink RX12 483 yX12_findHalves ∈ wsL_law := mr_57 _ (List.mem_of_getElem? (i := 1) rfl)
theorem k_57_2 : Cond.instanceMethod yX12_findHalves ∈ wsL_law := mr_57 _ (List.mem_of_getElem? (i := 2) rfl)
theorem k_57_3 : Cond.selects RX12 yX12_findHalves yX12_findHalves ∈ wsL_law := mr_57 _ (List.mem_of_getElem? (i := 3) rfl)
theorem k_57_4 : Cond.code yX12_findHalves cX12_findHalves 9 none ∈ wsL_law := mr_57 _ (List.mem_of_getElem? (i := 4) rfl)
theorem k_59_4 : Cond.methodLink RX12 501 yX12_findPoints ∈ wsL_law := mr_59 _ (List.mem_of_getElem? (i := 4) rfl)
theorem k_59_5 : Cond.instanceMethod yX12_findPoints ∈ wsL_law := mr_59 _ (List.mem_of_getElem? (i := 5) rfl)
theorem k_59_6 : Cond.selects RX12 yX12_findPoints yX12_findPoints ∈ wsL_law := mr_59 _ (List.mem_of_getElem? (i := 6) rfl)
theorem k_59_7 : Cond.code yX12_findPoints cX12_findPoints 6 none ∈ wsL_law := mr_59 _ (List.mem_of_getElem? (i := 7) rfl)
theorem k_60_0 : Cond.methodLink RX12 504 yX12_firstOnes ∈ wsL_law := mr_60 _ (List.mem_of_getElem? (i := 0) rfl)
theorem k_60_1 : Cond.instanceMethod yX12_firstOnes ∈ wsL_law := mr_60 _ (List.mem_of_getElem? (i := 1) rfl)
theorem k_60_2 : Cond.selects RX12 yX12_firstOnes yX12_firstOnes ∈ wsL_law := mr_60 _ (List.mem_of_getElem? (i := 2) rfl)
theorem k_60_3 : Cond.code yX12_firstOnes cX12_firstOnes 4 (some .int) ∈ wsL_law := mr_60 _ (List.mem_of_getElem? (i := 3) rfl)
theorem k_62_10 : Cond.methodLink RX12 525 yX12_findWorth ∈ wsL_law := mr_62 _ (List.mem_of_getElem? (i := 10) rfl)
theorem k_62_11 : Cond.instanceMethod yX12_findWorth ∈ wsL_law := mr_62 _ (List.mem_of_getElem? (i := 11) rfl)
theorem k_62_12 : Cond.selects RX12 yX12_findWorth yX12_findWorth ∈ wsL_law := mr_62 _ (List.mem_of_getElem? (i := 12) rfl)
theorem k_62_13 : Cond.code yX12_findWorth cX12_findWorth 17 none ∈ wsL_law := mr_62 _ (List.mem_of_getElem? (i := 13) rfl)
theorem k_62_8 : Cond.fieldLink RX12 520 "LuckLinksModel" "worthBelow" "J" ∈ wsL_law := mr_62 _ (List.mem_of_getElem? (i := 8) rfl)
theorem k_62_9 : Cond.fieldLink RX12 517 "LuckLinksModel" "worthUp" "J" ∈ wsL_law := mr_62 _ (List.mem_of_getElem? (i := 9) rfl)
theorem dX12_back_0 : decode cX12_back 0 = .ok (.iload_n 1, 1) := by decide +kernel
theorem dX12_back_1 : decode cX12_back 1 = .ok (.iconst 0, 1) := by decide +kernel
theorem dX12_back_2 : decode cX12_back 2 = .ok (.iconst 2, 1) := by decide +kernel
theorem dX12_back_3 : decode cX12_back 3 = .ok (.invokestatic 182, 3) := by decide +kernel
theorem dX12_back_6 : decode cX12_back 6 = .ok (.ifCond .eq 32, 3) := by decide +kernel
theorem dX12_back_9 : decode cX12_back 9 = .ok (.iload_n 2, 1) := by decide +kernel
theorem dX12_back_10 : decode cX12_back 10 = .ok (.iconst 1, 1) := by decide +kernel
theorem dX12_back_11 : decode cX12_back 11 = .ok (.bipush 20, 2) := by decide +kernel
theorem dX12_back_13 : decode cX12_back 13 = .ok (.invokestatic 182, 3) := by decide +kernel
theorem dX12_back_16 : decode cX12_back 16 = .ok (.ifCond .eq 22, 3) := by decide +kernel
theorem dX12_back_19 : decode cX12_back 19 = .ok (.iload_n 3, 1) := by decide +kernel
theorem dX12_back_20 : decode cX12_back 20 = .ok (.iload 4, 2) := by decide +kernel
theorem dX12_back_22 : decode cX12_back 22 = .ok (.invokestatic 408, 3) := by decide +kernel
theorem dX12_back_25 : decode cX12_back 25 = .ok (.ifCond .eq 13, 3) := by decide +kernel
theorem dX12_back_28 : decode cX12_back 28 = .ok (.iload 5, 2) := by decide +kernel
theorem dX12_back_30 : decode cX12_back 30 = .ok (.iconst 0, 1) := by decide +kernel
theorem dX12_back_31 : decode cX12_back 31 = .ok (.iconst 2, 1) := by decide +kernel
theorem dX12_back_32 : decode cX12_back 32 = .ok (.invokestatic 182, 3) := by decide +kernel
theorem dX12_back_35 : decode cX12_back 35 = .ok (.ifCond .ne 7, 3) := by decide +kernel
theorem dX12_back_38 : decode cX12_back 38 = .ok (.ldc_w 439, 3) := by decide +kernel
theorem dX12_back_41 : decode cX12_back 41 = .ok (.ireturn, 1) := by decide +kernel
theorem dX12_back_42 : decode cX12_back 42 = .ok (.aload_n 0, 1) := by decide +kernel
theorem dX12_back_43 : decode cX12_back 43 = .ok (.iconst 0, 1) := by decide +kernel
theorem dX12_back_44 : decode cX12_back 44 = .ok (.putfield 433, 3) := by decide +kernel
theorem dX12_back_47 : decode cX12_back 47 = .ok (.aload_n 0, 1) := by decide +kernel
theorem dX12_back_48 : decode cX12_back 48 = .ok (.iconst 0, 1) := by decide +kernel
theorem dX12_back_49 : decode cX12_back 49 = .ok (.putfield 436, 3) := by decide +kernel
theorem dX12_back_52 : decode cX12_back 52 = .ok (.aload_n 0, 1) := by decide +kernel
theorem dX12_back_53 : decode cX12_back 53 = .ok (.iconst 0, 1) := by decide +kernel
theorem dX12_back_54 : decode cX12_back 54 = .ok (.putfield 430, 3) := by decide +kernel
theorem dX12_back_57 : decode cX12_back 57 = .ok (.iload_n 3, 1) := by decide +kernel
theorem dX12_back_58 : decode cX12_back 58 = .ok (.istore 6, 2) := by decide +kernel
theorem dX12_back_60 : decode cX12_back 60 = .ok (.iload 6, 2) := by decide +kernel
theorem dX12_back_62 : decode cX12_back 62 = .ok (.iload 4, 2) := by decide +kernel
theorem dX12_back_64 : decode cX12_back 64 = .ok (.if_icmp .gt 17, 3) := by decide +kernel
theorem dX12_back_67 : decode cX12_back 67 = .ok (.aload_n 0, 1) := by decide +kernel
theorem dX12_back_68 : decode cX12_back 68 = .ok (.iload 6, 2) := by decide +kernel
theorem dX12_back_70 : decode cX12_back 70 = .ok (.iload_n 1, 1) := by decide +kernel
theorem dX12_back_71 : decode cX12_back 71 = .ok (.iload_n 2, 1) := by decide +kernel
theorem dX12_back_72 : decode cX12_back 72 = .ok (.invokevirtual 440, 3) := by decide +kernel
theorem dX12_back_75 : decode cX12_back 75 = .ok (.iinc 6 1, 3) := by decide +kernel
theorem dX12_back_78 : decode cX12_back 78 = .ok (.goto (-18), 3) := by decide +kernel
theorem dX12_back_81 : decode cX12_back 81 = .ok (.iload 5, 2) := by decide +kernel
theorem dX12_back_83 : decode cX12_back 83 = .ok (.ifCond .ne 10, 3) := by decide +kernel
theorem dX12_back_86 : decode cX12_back 86 = .ok (.aload_n 0, 1) := by decide +kernel
theorem dX12_back_87 : decode cX12_back 87 = .ok (.getfield 433, 3) := by decide +kernel
theorem dX12_back_90 : decode cX12_back 90 = .ok (.goto 20, 3) := by decide +kernel
theorem dX12_back_93 : decode cX12_back 93 = .ok (.iload 5, 2) := by decide +kernel
theorem dX12_back_95 : decode cX12_back 95 = .ok (.iconst 1, 1) := by decide +kernel
theorem dX12_back_96 : decode cX12_back 96 = .ok (.if_icmp .ne 10, 3) := by decide +kernel
theorem dX12_back_99 : decode cX12_back 99 = .ok (.aload_n 0, 1) := by decide +kernel
theorem dX12_back_100 : decode cX12_back 100 = .ok (.getfield 436, 3) := by decide +kernel
theorem dX12_back_103 : decode cX12_back 103 = .ok (.goto 7, 3) := by decide +kernel
theorem dX12_back_106 : decode cX12_back 106 = .ok (.aload_n 0, 1) := by decide +kernel
theorem dX12_back_107 : decode cX12_back 107 = .ok (.getfield 430, 3) := by decide +kernel
theorem dX12_back_110 : decode cX12_back 110 = .ok (.ireturn, 1) := by decide +kernel
theorem dX12_best_0 : decode cX12_best 0 = .ok (.iload_n 1, 1) := by decide +kernel
theorem dX12_best_1 : decode cX12_best 1 = .ok (.invokestatic 453, 3) := by decide +kernel
theorem dX12_best_4 : decode cX12_best 4 = .ok (.ifCond .eq 11, 3) := by decide +kernel
theorem dX12_best_7 : decode cX12_best 7 = .ok (.aload_n 0, 1) := by decide +kernel
theorem dX12_best_8 : decode cX12_best 8 = .ok (.iload_n 1, 1) := by decide +kernel
theorem dX12_best_9 : decode cX12_best 9 = .ok (.invokevirtual 467, 3) := by decide +kernel
theorem dX12_best_12 : decode cX12_best 12 = .ok (.goto 4, 3) := by decide +kernel
theorem dX12_best_15 : decode cX12_best 15 = .ok (.iconst (-1), 1) := by decide +kernel
theorem dX12_best_16 : decode cX12_best 16 = .ok (.ireturn, 1) := by decide +kernel
theorem dX12_bestOf_0 : decode cX12_bestOf 0 = .ok (.iconst (-1), 1) := by decide +kernel
theorem dX12_bestOf_1 : decode cX12_bestOf 1 = .ok (.istore_n 2, 1) := by decide +kernel
theorem dX12_bestOf_2 : decode cX12_bestOf 2 = .ok (.lconst 0, 1) := by decide +kernel
theorem dX12_bestOf_3 : decode cX12_bestOf 3 = .ok (.lstore_n 3, 1) := by decide +kernel
theorem dX12_bestOf_4 : decode cX12_bestOf 4 = .ok (.lconst 1, 1) := by decide +kernel
theorem dX12_bestOf_5 : decode cX12_bestOf 5 = .ok (.lstore 5, 2) := by decide +kernel
theorem dX12_bestOf_7 : decode cX12_bestOf 7 = .ok (.iconst 0, 1) := by decide +kernel
theorem dX12_bestOf_8 : decode cX12_bestOf 8 = .ok (.istore 7, 2) := by decide +kernel
theorem dX12_bestOf_10 : decode cX12_bestOf 10 = .ok (.iload 7, 2) := by decide +kernel
theorem dX12_bestOf_12 : decode cX12_bestOf 12 = .ok (.aload_n 0, 1) := by decide +kernel
theorem dX12_bestOf_13 : decode cX12_bestOf 13 = .ok (.getfield 7, 3) := by decide +kernel
theorem dX12_bestOf_16 : decode cX12_bestOf 16 = .ok (.iconst 0, 1) := by decide +kernel
theorem dX12_bestOf_17 : decode cX12_bestOf 17 = .ok (.iaload, 1) := by decide +kernel
theorem dX12_bestOf_18 : decode cX12_bestOf 18 = .ok (.if_icmp .ge 65, 3) := by decide +kernel
theorem dX12_bestOf_83 : decode cX12_bestOf 83 = .ok (.iload_n 2, 1) := by decide +kernel
theorem dX12_bestOf_84 : decode cX12_bestOf 84 = .ok (.ireturn, 1) := by decide +kernel
theorem dX12_bitsOf_0 : decode cX12_bitsOf 0 = .ok (.iconst 0, 1) := by decide +kernel
theorem dX12_bitsOf_1 : decode cX12_bitsOf 1 = .ok (.istore_n 1, 1) := by decide +kernel
theorem dX12_bitsOf_2 : decode cX12_bitsOf 2 = .ok (.iconst 0, 1) := by decide +kernel
theorem dX12_bitsOf_3 : decode cX12_bitsOf 3 = .ok (.istore_n 2, 1) := by decide +kernel
theorem dX12_bitsOf_4 : decode cX12_bitsOf 4 = .ok (.iload_n 2, 1) := by decide +kernel
theorem dX12_bitsOf_5 : decode cX12_bitsOf 5 = .ok (.bipush 20, 2) := by decide +kernel
theorem dX12_bitsOf_7 : decode cX12_bitsOf 7 = .ok (.if_icmp .ge 17, 3) := by decide +kernel
theorem dX12_bitsOf_10 : decode cX12_bitsOf 10 = .ok (.iload_n 1, 1) := by decide +kernel
theorem dX12_bitsOf_11 : decode cX12_bitsOf 11 = .ok (.iload_n 0, 1) := by decide +kernel
theorem dX12_bitsOf_12 : decode cX12_bitsOf 12 = .ok (.iload_n 2, 1) := by decide +kernel
theorem dX12_bitsOf_13 : decode cX12_bitsOf 13 = .ok (.ishr, 1) := by decide +kernel
theorem dX12_bitsOf_14 : decode cX12_bitsOf 14 = .ok (.iconst 1, 1) := by decide +kernel
theorem dX12_bitsOf_15 : decode cX12_bitsOf 15 = .ok (.iand, 1) := by decide +kernel
theorem dX12_bitsOf_16 : decode cX12_bitsOf 16 = .ok (.iadd, 1) := by decide +kernel
theorem dX12_bitsOf_17 : decode cX12_bitsOf 17 = .ok (.istore_n 1, 1) := by decide +kernel
theorem dX12_bitsOf_18 : decode cX12_bitsOf 18 = .ok (.iinc 2 1, 3) := by decide +kernel
theorem dX12_bitsOf_21 : decode cX12_bitsOf 21 = .ok (.goto (-17), 3) := by decide +kernel
theorem dX12_bitsOf_24 : decode cX12_bitsOf 24 = .ok (.iload_n 1, 1) := by decide +kernel
theorem dX12_bitsOf_25 : decode cX12_bitsOf 25 = .ok (.ireturn, 1) := by decide +kernel
theorem dX12_findHalves_0 : decode cX12_findHalves 0 = .ok (.iconst 0, 1) := by decide +kernel
theorem dX12_findHalves_1 : decode cX12_findHalves 1 = .ok (.istore 5, 2) := by decide +kernel
theorem dX12_findHalves_3 : decode cX12_findHalves 3 = .ok (.iload 5, 2) := by decide +kernel
theorem dX12_findHalves_5 : decode cX12_findHalves 5 = .ok (.bipush 40, 2) := by decide +kernel
theorem dX12_findHalves_7 : decode cX12_findHalves 7 = .ok (.if_icmp .ge 25, 3) := by decide +kernel
theorem dX12_findHalves_10 : decode cX12_findHalves 10 = .ok (.aload_n 0, 1) := by decide +kernel
theorem dX12_findHalves_11 : decode cX12_findHalves 11 = .ok (.getfield 162, 3) := by decide +kernel
theorem dX12_findHalves_14 : decode cX12_findHalves 14 = .ok (.iload 5, 2) := by decide +kernel
theorem dX12_findHalves_16 : decode cX12_findHalves 16 = .ok (.lconst 0, 1) := by decide +kernel
theorem dX12_findHalves_17 : decode cX12_findHalves 17 = .ok (.lastore, 1) := by decide +kernel
theorem dX12_findHalves_18 : decode cX12_findHalves 18 = .ok (.aload_n 0, 1) := by decide +kernel
theorem dX12_findHalves_19 : decode cX12_findHalves 19 = .ok (.getfield 165, 3) := by decide +kernel
theorem dX12_findHalves_22 : decode cX12_findHalves 22 = .ok (.iload 5, 2) := by decide +kernel
theorem dX12_findHalves_24 : decode cX12_findHalves 24 = .ok (.iconst 0, 1) := by decide +kernel
theorem dX12_findHalves_25 : decode cX12_findHalves 25 = .ok (.iastore, 1) := by decide +kernel
theorem dX12_findHalves_26 : decode cX12_findHalves 26 = .ok (.iinc 5 1, 3) := by decide +kernel
theorem dX12_findHalves_29 : decode cX12_findHalves 29 = .ok (.goto (-26), 3) := by decide +kernel
theorem dX12_findHalves_32 : decode cX12_findHalves 32 = .ok (.iload_n 2, 1) := by decide +kernel
theorem dX12_findHalves_33 : decode cX12_findHalves 33 = .ok (.istore 5, 2) := by decide +kernel
theorem dX12_findHalves_35 : decode cX12_findHalves 35 = .ok (.iload 5, 2) := by decide +kernel
theorem dX12_findHalves_37 : decode cX12_findHalves 37 = .ok (.iload 4, 2) := by decide +kernel
theorem dX12_findHalves_39 : decode cX12_findHalves 39 = .ok (.if_icmp .gt 114, 3) := by decide +kernel
theorem dX12_findHalves_42 : decode cX12_findHalves 42 = .ok (.iconst 0, 1) := by decide +kernel
theorem dX12_findHalves_43 : decode cX12_findHalves 43 = .ok (.istore 6, 2) := by decide +kernel
theorem dX12_findHalves_45 : decode cX12_findHalves 45 = .ok (.iload 6, 2) := by decide +kernel
theorem dX12_findHalves_47 : decode cX12_findHalves 47 = .ok (.aload_n 0, 1) := by decide +kernel
theorem dX12_findHalves_48 : decode cX12_findHalves 48 = .ok (.getfield 7, 3) := by decide +kernel
theorem dX12_findHalves_51 : decode cX12_findHalves 51 = .ok (.iconst 0, 1) := by decide +kernel
theorem dX12_findHalves_52 : decode cX12_findHalves 52 = .ok (.iaload, 1) := by decide +kernel
theorem dX12_findHalves_53 : decode cX12_findHalves 53 = .ok (.if_icmp .ge 94, 3) := by decide +kernel
theorem dX12_findHalves_147 : decode cX12_findHalves 147 = .ok (.iinc 5 1, 3) := by decide +kernel
theorem dX12_findHalves_150 : decode cX12_findHalves 150 = .ok (.goto (-115), 3) := by decide +kernel
theorem dX12_findHalves_153 : decode cX12_findHalves 153 = .ok (.return_, 1) := by decide +kernel
theorem dX12_findPoints_0 : decode cX12_findPoints 0 = .ok (.iconst 0, 1) := by decide +kernel
theorem dX12_findPoints_1 : decode cX12_findPoints 1 = .ok (.istore 4, 2) := by decide +kernel
theorem dX12_findPoints_3 : decode cX12_findPoints 3 = .ok (.iload 4, 2) := by decide +kernel
theorem dX12_findPoints_5 : decode cX12_findPoints 5 = .ok (.aload_n 0, 1) := by decide +kernel
theorem dX12_findPoints_6 : decode cX12_findPoints 6 = .ok (.getfield 7, 3) := by decide +kernel
theorem dX12_findPoints_9 : decode cX12_findPoints 9 = .ok (.iconst 0, 1) := by decide +kernel
theorem dX12_findPoints_10 : decode cX12_findPoints 10 = .ok (.iaload, 1) := by decide +kernel
theorem dX12_findPoints_11 : decode cX12_findPoints 11 = .ok (.if_icmp .ge 69, 3) := by decide +kernel
theorem dX12_findPoints_80 : decode cX12_findPoints 80 = .ok (.return_, 1) := by decide +kernel
theorem dX12_findWorth_0 : decode cX12_findWorth 0 = .ok (.aload_n 0, 1) := by decide +kernel
theorem dX12_findWorth_1 : decode cX12_findWorth 1 = .ok (.lconst 0, 1) := by decide +kernel
theorem dX12_findWorth_2 : decode cX12_findWorth 2 = .ok (.putfield 517, 3) := by decide +kernel
theorem dX12_findWorth_5 : decode cX12_findWorth 5 = .ok (.aload_n 0, 1) := by decide +kernel
theorem dX12_findWorth_6 : decode cX12_findWorth 6 = .ok (.lconst 0, 1) := by decide +kernel
theorem dX12_findWorth_7 : decode cX12_findWorth 7 = .ok (.putfield 520, 3) := by decide +kernel
theorem dX12_findWorth_10 : decode cX12_findWorth 10 = .ok (.iload_n 2, 1) := by decide +kernel
theorem dX12_findWorth_11 : decode cX12_findWorth 11 = .ok (.istore 4, 2) := by decide +kernel
theorem dX12_findWorth_13 : decode cX12_findWorth 13 = .ok (.iload 4, 2) := by decide +kernel
theorem dX12_findWorth_15 : decode cX12_findWorth 15 = .ok (.iload_n 3, 1) := by decide +kernel
theorem dX12_findWorth_16 : decode cX12_findWorth 16 = .ok (.if_icmp .gt 165, 3) := by decide +kernel
theorem dX12_findWorth_19 : decode cX12_findWorth 19 = .ok (.iconst 0, 1) := by decide +kernel
theorem dX12_findWorth_20 : decode cX12_findWorth 20 = .ok (.istore 5, 2) := by decide +kernel
theorem dX12_findWorth_22 : decode cX12_findWorth 22 = .ok (.iload 5, 2) := by decide +kernel
theorem dX12_findWorth_24 : decode cX12_findWorth 24 = .ok (.iconst 4, 1) := by decide +kernel
theorem dX12_findWorth_25 : decode cX12_findWorth 25 = .ok (.if_icmp .ge 150, 3) := by decide +kernel
theorem dX12_findWorth_28 : decode cX12_findWorth 28 = .ok (.lconst 0, 1) := by decide +kernel
theorem dX12_findWorth_29 : decode cX12_findWorth 29 = .ok (.lstore 6, 2) := by decide +kernel
theorem dX12_findWorth_31 : decode cX12_findWorth 31 = .ok (.lconst 0, 1) := by decide +kernel
theorem dX12_findWorth_32 : decode cX12_findWorth 32 = .ok (.lstore 8, 2) := by decide +kernel
theorem dX12_findWorth_34 : decode cX12_findWorth 34 = .ok (.lconst 0, 1) := by decide +kernel
theorem dX12_findWorth_35 : decode cX12_findWorth 35 = .ok (.lstore 10, 2) := by decide +kernel
theorem dX12_findWorth_37 : decode cX12_findWorth 37 = .ok (.lconst 0, 1) := by decide +kernel
theorem dX12_findWorth_38 : decode cX12_findWorth 38 = .ok (.lstore 12, 2) := by decide +kernel
theorem dX12_findWorth_40 : decode cX12_findWorth 40 = .ok (.iconst 0, 1) := by decide +kernel
theorem dX12_findWorth_41 : decode cX12_findWorth 41 = .ok (.istore 14, 2) := by decide +kernel
theorem dX12_findWorth_43 : decode cX12_findWorth 43 = .ok (.iload 14, 2) := by decide +kernel
theorem dX12_findWorth_45 : decode cX12_findWorth 45 = .ok (.aload_n 0, 1) := by decide +kernel
theorem dX12_findWorth_46 : decode cX12_findWorth 46 = .ok (.getfield 7, 3) := by decide +kernel
theorem dX12_findWorth_49 : decode cX12_findWorth 49 = .ok (.iconst 0, 1) := by decide +kernel
theorem dX12_findWorth_50 : decode cX12_findWorth 50 = .ok (.iaload, 1) := by decide +kernel
theorem dX12_findWorth_51 : decode cX12_findWorth 51 = .ok (.if_icmp .ge 84, 3) := by decide +kernel
theorem dX12_findWorth_135 : decode cX12_findWorth 135 = .ok (.aload_n 0, 1) := by decide +kernel
theorem dX12_findWorth_136 : decode cX12_findWorth 136 = .ok (.dup, 1) := by decide +kernel
theorem dX12_findWorth_137 : decode cX12_findWorth 137 = .ok (.getfield 517, 3) := by decide +kernel
theorem dX12_findWorth_140 : decode cX12_findWorth 140 = .ok (.lload 6, 2) := by decide +kernel
theorem dX12_findWorth_142 : decode cX12_findWorth 142 = .ok (.lload 12, 2) := by decide +kernel
theorem dX12_findWorth_144 : decode cX12_findWorth 144 = .ok (.lmul, 1) := by decide +kernel
theorem dX12_findWorth_145 : decode cX12_findWorth 145 = .ok (.lload 8, 2) := by decide +kernel
theorem dX12_findWorth_147 : decode cX12_findWorth 147 = .ok (.lload 10, 2) := by decide +kernel
theorem dX12_findWorth_149 : decode cX12_findWorth 149 = .ok (.lmul, 1) := by decide +kernel
theorem dX12_findWorth_150 : decode cX12_findWorth 150 = .ok (.lsub, 1) := by decide +kernel
theorem dX12_findWorth_151 : decode cX12_findWorth 151 = .ok (.ladd, 1) := by decide +kernel
theorem dX12_findWorth_152 : decode cX12_findWorth 152 = .ok (.putfield 517, 3) := by decide +kernel
theorem dX12_findWorth_155 : decode cX12_findWorth 155 = .ok (.aload_n 0, 1) := by decide +kernel
theorem dX12_findWorth_156 : decode cX12_findWorth 156 = .ok (.dup, 1) := by decide +kernel
theorem dX12_findWorth_157 : decode cX12_findWorth 157 = .ok (.getfield 520, 3) := by decide +kernel
theorem dX12_findWorth_160 : decode cX12_findWorth 160 = .ok (.lload 6, 2) := by decide +kernel
theorem dX12_findWorth_162 : decode cX12_findWorth 162 = .ok (.lload 8, 2) := by decide +kernel
theorem dX12_findWorth_164 : decode cX12_findWorth 164 = .ok (.lmul, 1) := by decide +kernel
theorem dX12_findWorth_165 : decode cX12_findWorth 165 = .ok (.ladd, 1) := by decide +kernel
theorem dX12_findWorth_166 : decode cX12_findWorth 166 = .ok (.putfield 520, 3) := by decide +kernel
theorem dX12_findWorth_169 : decode cX12_findWorth 169 = .ok (.iinc 5 1, 3) := by decide +kernel
theorem dX12_findWorth_172 : decode cX12_findWorth 172 = .ok (.goto (-150), 3) := by decide +kernel
theorem dX12_findWorth_175 : decode cX12_findWorth 175 = .ok (.iinc 4 1, 3) := by decide +kernel
theorem dX12_findWorth_178 : decode cX12_findWorth 178 = .ok (.goto (-165), 3) := by decide +kernel
theorem dX12_findWorth_181 : decode cX12_findWorth 181 = .ok (.return_, 1) := by decide +kernel
theorem dX12_firstOnes_0 : decode cX12_firstOnes 0 = .ok (.iconst 0, 1) := by decide +kernel
theorem dX12_firstOnes_1 : decode cX12_firstOnes 1 = .ok (.istore_n 2, 1) := by decide +kernel
theorem dX12_firstOnes_2 : decode cX12_firstOnes 2 = .ok (.iconst 0, 1) := by decide +kernel
theorem dX12_firstOnes_3 : decode cX12_firstOnes 3 = .ok (.istore_n 3, 1) := by decide +kernel
theorem dX12_firstOnes_4 : decode cX12_firstOnes 4 = .ok (.iload_n 3, 1) := by decide +kernel
theorem dX12_firstOnes_5 : decode cX12_firstOnes 5 = .ok (.aload_n 0, 1) := by decide +kernel
theorem dX12_firstOnes_6 : decode cX12_firstOnes 6 = .ok (.getfield 7, 3) := by decide +kernel
theorem dX12_firstOnes_9 : decode cX12_firstOnes 9 = .ok (.iconst 0, 1) := by decide +kernel
theorem dX12_firstOnes_10 : decode cX12_firstOnes 10 = .ok (.iaload, 1) := by decide +kernel
theorem dX12_firstOnes_11 : decode cX12_firstOnes 11 = .ok (.if_icmp .ge 28, 3) := by decide +kernel
theorem dX12_firstOnes_39 : decode cX12_firstOnes 39 = .ok (.iload_n 2, 1) := by decide +kernel
theorem dX12_firstOnes_40 : decode cX12_firstOnes 40 = .ok (.ireturn, 1) := by decide +kernel
theorem dX12_held__0 : decode cX12_held_ 0 = .ok (.iload_n 1, 1) := by decide +kernel
theorem dX12_held__1 : decode cX12_held_ 1 = .ok (.invokestatic 190, 3) := by decide +kernel
theorem dX12_held__4 : decode cX12_held_ 4 = .ok (.ifCond .eq 12, 3) := by decide +kernel
theorem dX12_held__7 : decode cX12_held_ 7 = .ok (.iload_n 2, 1) := by decide +kernel
theorem dX12_held__8 : decode cX12_held_ 8 = .ok (.iconst 0, 1) := by decide +kernel
theorem dX12_held__9 : decode cX12_held_ 9 = .ok (.iconst 4, 1) := by decide +kernel
theorem dX12_held__10 : decode cX12_held_ 10 = .ok (.invokestatic 182, 3) := by decide +kernel
theorem dX12_held__13 : decode cX12_held_ 13 = .ok (.ifCond .ne 5, 3) := by decide +kernel
theorem dX12_held__16 : decode cX12_held_ 16 = .ok (.iconst (-1), 1) := by decide +kernel
theorem dX12_held__17 : decode cX12_held_ 17 = .ok (.ireturn, 1) := by decide +kernel
theorem dX12_held__18 : decode cX12_held_ 18 = .ok (.iconst 0, 1) := by decide +kernel
theorem dX12_held__19 : decode cX12_held_ 19 = .ok (.istore_n 3, 1) := by decide +kernel
theorem dX12_held__20 : decode cX12_held_ 20 = .ok (.iconst 0, 1) := by decide +kernel
theorem dX12_held__21 : decode cX12_held_ 21 = .ok (.istore 4, 2) := by decide +kernel
theorem dX12_held__23 : decode cX12_held_ 23 = .ok (.iload 4, 2) := by decide +kernel
theorem dX12_held__25 : decode cX12_held_ 25 = .ok (.aload_n 0, 1) := by decide +kernel
theorem dX12_held__26 : decode cX12_held_ 26 = .ok (.getfield 7, 3) := by decide +kernel
theorem dX12_held__29 : decode cX12_held_ 29 = .ok (.iconst 0, 1) := by decide +kernel
theorem dX12_held__30 : decode cX12_held_ 30 = .ok (.iaload, 1) := by decide +kernel
theorem dX12_held__31 : decode cX12_held_ 31 = .ok (.if_icmp .ge 138, 3) := by decide +kernel
theorem dX12_held__169 : decode cX12_held_ 169 = .ok (.iload_n 3, 1) := by decide +kernel
theorem dX12_held__170 : decode cX12_held_ 170 = .ok (.ireturn, 1) := by decide +kernel
theorem dX12_lasts_0 : decode cX12_lasts 0 = .ok (.iload_n 1, 1) := by decide +kernel
theorem dX12_lasts_1 : decode cX12_lasts 1 = .ok (.invokestatic 423, 3) := by decide +kernel
theorem dX12_lasts_4 : decode cX12_lasts 4 = .ok (.ifCond .eq 23, 3) := by decide +kernel
theorem dX12_lasts_7 : decode cX12_lasts 7 = .ok (.iload_n 2, 1) := by decide +kernel
theorem dX12_lasts_8 : decode cX12_lasts 8 = .ok (.iload_n 3, 1) := by decide +kernel
theorem dX12_lasts_9 : decode cX12_lasts 9 = .ok (.iload 4, 2) := by decide +kernel
theorem dX12_lasts_11 : decode cX12_lasts 11 = .ok (.invokestatic 489, 3) := by decide +kernel
theorem dX12_lasts_14 : decode cX12_lasts 14 = .ok (.ifCond .eq 13, 3) := by decide +kernel
theorem dX12_lasts_17 : decode cX12_lasts 17 = .ok (.iload 5, 2) := by decide +kernel
theorem dX12_lasts_19 : decode cX12_lasts 19 = .ok (.iconst 0, 1) := by decide +kernel
theorem dX12_lasts_20 : decode cX12_lasts 20 = .ok (.iconst 2, 1) := by decide +kernel
theorem dX12_lasts_21 : decode cX12_lasts 21 = .ok (.invokestatic 182, 3) := by decide +kernel
theorem dX12_lasts_24 : decode cX12_lasts 24 = .ok (.ifCond .ne 7, 3) := by decide +kernel
theorem dX12_lasts_27 : decode cX12_lasts 27 = .ok (.iconst (-1), 1) := by decide +kernel
theorem dX12_lasts_28 : decode cX12_lasts 28 = .ok (.goto 17, 3) := by decide +kernel
theorem dX12_lasts_31 : decode cX12_lasts 31 = .ok (.aload_n 0, 1) := by decide +kernel
theorem dX12_lasts_32 : decode cX12_lasts 32 = .ok (.iload_n 1, 1) := by decide +kernel
theorem dX12_lasts_33 : decode cX12_lasts 33 = .ok (.invokestatic 387, 3) := by decide +kernel
theorem dX12_lasts_36 : decode cX12_lasts 36 = .ok (.iload_n 2, 1) := by decide +kernel
theorem dX12_lasts_37 : decode cX12_lasts 37 = .ok (.iload_n 3, 1) := by decide +kernel
theorem dX12_lasts_38 : decode cX12_lasts 38 = .ok (.iload 4, 2) := by decide +kernel
theorem dX12_lasts_40 : decode cX12_lasts 40 = .ok (.iload 5, 2) := by decide +kernel
theorem dX12_lasts_42 : decode cX12_lasts 42 = .ok (.invokevirtual 492, 3) := by decide +kernel
theorem dX12_lasts_45 : decode cX12_lasts 45 = .ok (.ireturn, 1) := by decide +kernel
theorem dX12_lastsBy_0 : decode cX12_lastsBy 0 = .ok (.aload_n 0, 1) := by decide +kernel
theorem dX12_lastsBy_1 : decode cX12_lastsBy 1 = .ok (.iload_n 1, 1) := by decide +kernel
theorem dX12_lastsBy_2 : decode cX12_lastsBy 2 = .ok (.iload_n 2, 1) := by decide +kernel
theorem dX12_lastsBy_3 : decode cX12_lastsBy 3 = .ok (.iload_n 3, 1) := by decide +kernel
theorem dX12_lastsBy_4 : decode cX12_lastsBy 4 = .ok (.iload 4, 2) := by decide +kernel
theorem dX12_lastsBy_6 : decode cX12_lastsBy 6 = .ok (.invokevirtual 483, 3) := by decide +kernel
theorem dX12_lastsBy_9 : decode cX12_lastsBy 9 = .ok (.iconst 0, 1) := by decide +kernel
theorem dX12_lastsBy_10 : decode cX12_lastsBy 10 = .ok (.istore 6, 2) := by decide +kernel
theorem dX12_lastsBy_12 : decode cX12_lastsBy 12 = .ok (.iconst 0, 1) := by decide +kernel
theorem dX12_lastsBy_13 : decode cX12_lastsBy 13 = .ok (.istore 7, 2) := by decide +kernel
theorem dX12_lastsBy_15 : decode cX12_lastsBy 15 = .ok (.iconst 0, 1) := by decide +kernel
theorem dX12_lastsBy_16 : decode cX12_lastsBy 16 = .ok (.istore 8, 2) := by decide +kernel
theorem dX12_lastsBy_18 : decode cX12_lastsBy 18 = .ok (.iconst 0, 1) := by decide +kernel
theorem dX12_lastsBy_19 : decode cX12_lastsBy 19 = .ok (.istore 9, 2) := by decide +kernel
theorem dX12_lastsBy_21 : decode cX12_lastsBy 21 = .ok (.iload 9, 2) := by decide +kernel
theorem dX12_lastsBy_23 : decode cX12_lastsBy 23 = .ok (.aload_n 0, 1) := by decide +kernel
theorem dX12_lastsBy_24 : decode cX12_lastsBy 24 = .ok (.getfield 7, 3) := by decide +kernel
theorem dX12_lastsBy_27 : decode cX12_lastsBy 27 = .ok (.iconst 0, 1) := by decide +kernel
theorem dX12_lastsBy_28 : decode cX12_lastsBy 28 = .ok (.iaload, 1) := by decide +kernel
theorem dX12_lastsBy_29 : decode cX12_lastsBy 29 = .ok (.if_icmp .ge 135, 3) := by decide +kernel
theorem dX12_lastsBy_164 : decode cX12_lastsBy 164 = .ok (.iload 5, 2) := by decide +kernel
theorem dX12_lastsBy_166 : decode cX12_lastsBy 166 = .ok (.ifCond .ne 8, 3) := by decide +kernel
theorem dX12_lastsBy_169 : decode cX12_lastsBy 169 = .ok (.iload 6, 2) := by decide +kernel
theorem dX12_lastsBy_171 : decode cX12_lastsBy 171 = .ok (.goto 30, 3) := by decide +kernel
theorem dX12_lastsBy_174 : decode cX12_lastsBy 174 = .ok (.iload 5, 2) := by decide +kernel
theorem dX12_lastsBy_176 : decode cX12_lastsBy 176 = .ok (.iconst 1, 1) := by decide +kernel
theorem dX12_lastsBy_177 : decode cX12_lastsBy 177 = .ok (.if_icmp .ne 8, 3) := by decide +kernel
theorem dX12_lastsBy_180 : decode cX12_lastsBy 180 = .ok (.iload 7, 2) := by decide +kernel
theorem dX12_lastsBy_182 : decode cX12_lastsBy 182 = .ok (.goto 19, 3) := by decide +kernel
theorem dX12_lastsBy_185 : decode cX12_lastsBy 185 = .ok (.iload 5, 2) := by decide +kernel
theorem dX12_lastsBy_187 : decode cX12_lastsBy 187 = .ok (.iconst 2, 1) := by decide +kernel
theorem dX12_lastsBy_188 : decode cX12_lastsBy 188 = .ok (.if_icmp .ne 8, 3) := by decide +kernel
theorem dX12_lastsBy_191 : decode cX12_lastsBy 191 = .ok (.iload 8, 2) := by decide +kernel
theorem dX12_lastsBy_193 : decode cX12_lastsBy 193 = .ok (.goto 8, 3) := by decide +kernel
theorem dX12_lastsBy_196 : decode cX12_lastsBy 196 = .ok (.iload 6, 2) := by decide +kernel
theorem dX12_lastsBy_198 : decode cX12_lastsBy 198 = .ok (.iload 7, 2) := by decide +kernel
theorem dX12_lastsBy_200 : decode cX12_lastsBy 200 = .ok (.isub, 1) := by decide +kernel
theorem dX12_lastsBy_201 : decode cX12_lastsBy 201 = .ok (.ireturn, 1) := by decide +kernel
theorem dX12_leadsIn_0 : decode cX12_leadsIn 0 = .ok (.iconst 0, 1) := by decide +kernel
theorem dX12_leadsIn_1 : decode cX12_leadsIn 1 = .ok (.istore 4, 2) := by decide +kernel
theorem dX12_leadsIn_3 : decode cX12_leadsIn 3 = .ok (.iconst 0, 1) := by decide +kernel
theorem dX12_leadsIn_4 : decode cX12_leadsIn 4 = .ok (.istore 5, 2) := by decide +kernel
theorem dX12_leadsIn_6 : decode cX12_leadsIn 6 = .ok (.iconst 0, 1) := by decide +kernel
theorem dX12_leadsIn_7 : decode cX12_leadsIn 7 = .ok (.istore 6, 2) := by decide +kernel
theorem dX12_leadsIn_9 : decode cX12_leadsIn 9 = .ok (.iconst 0, 1) := by decide +kernel
theorem dX12_leadsIn_10 : decode cX12_leadsIn 10 = .ok (.istore 7, 2) := by decide +kernel
theorem dX12_leadsIn_12 : decode cX12_leadsIn 12 = .ok (.iload 7, 2) := by decide +kernel
theorem dX12_leadsIn_14 : decode cX12_leadsIn 14 = .ok (.aload_n 0, 1) := by decide +kernel
theorem dX12_leadsIn_15 : decode cX12_leadsIn 15 = .ok (.getfield 7, 3) := by decide +kernel
theorem dX12_leadsIn_18 : decode cX12_leadsIn 18 = .ok (.iconst 0, 1) := by decide +kernel
theorem dX12_leadsIn_19 : decode cX12_leadsIn 19 = .ok (.iaload, 1) := by decide +kernel
theorem dX12_leadsIn_20 : decode cX12_leadsIn 20 = .ok (.if_icmp .ge 83, 3) := by decide +kernel
theorem dX12_leadsIn_103 : decode cX12_leadsIn 103 = .ok (.iload 4, 2) := by decide +kernel
theorem dX12_leadsIn_105 : decode cX12_leadsIn 105 = .ok (.iconst 2, 1) := by decide +kernel
theorem dX12_leadsIn_106 : decode cX12_leadsIn 106 = .ok (.if_icmp .ge 4, 3) := by decide +kernel
theorem dX12_leadsIn_109 : decode cX12_leadsIn 109 = .ok (.return_, 1) := by decide +kernel
theorem dX12_line_0 : decode cX12_line 0 = .ok (.iload_n 1, 1) := by decide +kernel
theorem dX12_line_1 : decode cX12_line 1 = .ok (.iconst 1, 1) := by decide +kernel
theorem dX12_line_2 : decode cX12_line 2 = .ok (.bipush 20, 2) := by decide +kernel
theorem dX12_line_4 : decode cX12_line 4 = .ok (.invokestatic 182, 3) := by decide +kernel
theorem dX12_line_7 : decode cX12_line 7 = .ok (.ifCond .eq 21, 3) := by decide +kernel
theorem dX12_line_10 : decode cX12_line 10 = .ok (.iload_n 2, 1) := by decide +kernel
theorem dX12_line_11 : decode cX12_line 11 = .ok (.iload_n 3, 1) := by decide +kernel
theorem dX12_line_12 : decode cX12_line 12 = .ok (.invokestatic 408, 3) := by decide +kernel
theorem dX12_line_15 : decode cX12_line 15 = .ok (.ifCond .eq 13, 3) := by decide +kernel
theorem dX12_line_18 : decode cX12_line 18 = .ok (.iload 4, 2) := by decide +kernel
theorem dX12_line_20 : decode cX12_line 20 = .ok (.iconst 0, 1) := by decide +kernel
theorem dX12_line_21 : decode cX12_line 21 = .ok (.iconst 2, 1) := by decide +kernel
theorem dX12_line_22 : decode cX12_line 22 = .ok (.invokestatic 182, 3) := by decide +kernel
theorem dX12_line_25 : decode cX12_line 25 = .ok (.ifCond .ne 5, 3) := by decide +kernel
theorem dX12_line_28 : decode cX12_line 28 = .ok (.iconst (-1), 1) := by decide +kernel
theorem dX12_line_29 : decode cX12_line 29 = .ok (.ireturn, 1) := by decide +kernel
theorem dX12_line_30 : decode cX12_line 30 = .ok (.aload_n 0, 1) := by decide +kernel
theorem dX12_line_31 : decode cX12_line 31 = .ok (.iload_n 2, 1) := by decide +kernel
theorem dX12_line_32 : decode cX12_line 32 = .ok (.iload_n 3, 1) := by decide +kernel
theorem dX12_line_33 : decode cX12_line 33 = .ok (.iconst 0, 1) := by decide +kernel
theorem dX12_line_34 : decode cX12_line 34 = .ok (.invokevirtual 501, 3) := by decide +kernel
theorem dX12_line_37 : decode cX12_line 37 = .ok (.aload_n 0, 1) := by decide +kernel
theorem dX12_line_38 : decode cX12_line 38 = .ok (.iload_n 1, 1) := by decide +kernel
theorem dX12_line_39 : decode cX12_line 39 = .ok (.invokevirtual 504, 3) := by decide +kernel
theorem dX12_line_42 : decode cX12_line 42 = .ok (.istore 5, 2) := by decide +kernel
theorem dX12_line_44 : decode cX12_line 44 = .ok (.aload_n 0, 1) := by decide +kernel
theorem dX12_line_45 : decode cX12_line 45 = .ok (.iload_n 2, 1) := by decide +kernel
theorem dX12_line_46 : decode cX12_line 46 = .ok (.iload_n 3, 1) := by decide +kernel
theorem dX12_line_47 : decode cX12_line 47 = .ok (.iconst 1, 1) := by decide +kernel
theorem dX12_line_48 : decode cX12_line 48 = .ok (.invokevirtual 501, 3) := by decide +kernel
theorem dX12_line_51 : decode cX12_line 51 = .ok (.aload_n 0, 1) := by decide +kernel
theorem dX12_line_52 : decode cX12_line 52 = .ok (.iload_n 1, 1) := by decide +kernel
theorem dX12_line_53 : decode cX12_line 53 = .ok (.invokevirtual 504, 3) := by decide +kernel
theorem dX12_line_56 : decode cX12_line 56 = .ok (.istore 6, 2) := by decide +kernel
theorem dX12_line_58 : decode cX12_line 58 = .ok (.aload_n 0, 1) := by decide +kernel
theorem dX12_line_59 : decode cX12_line 59 = .ok (.iload_n 2, 1) := by decide +kernel
theorem dX12_line_60 : decode cX12_line 60 = .ok (.iload_n 3, 1) := by decide +kernel
theorem dX12_line_61 : decode cX12_line 61 = .ok (.iconst 2, 1) := by decide +kernel
theorem dX12_line_62 : decode cX12_line 62 = .ok (.invokevirtual 501, 3) := by decide +kernel
theorem dX12_line_65 : decode cX12_line 65 = .ok (.aload_n 0, 1) := by decide +kernel
theorem dX12_line_66 : decode cX12_line 66 = .ok (.iload_n 1, 1) := by decide +kernel
theorem dX12_line_67 : decode cX12_line 67 = .ok (.invokevirtual 504, 3) := by decide +kernel
theorem dX12_line_70 : decode cX12_line 70 = .ok (.istore 7, 2) := by decide +kernel
theorem dX12_line_72 : decode cX12_line 72 = .ok (.iload 5, 2) := by decide +kernel
theorem dX12_line_74 : decode cX12_line 74 = .ok (.iload 4, 2) := by decide +kernel
theorem dX12_line_76 : decode cX12_line 76 = .ok (.ifCond .ne 8, 3) := by decide +kernel
theorem dX12_line_79 : decode cX12_line 79 = .ok (.iload 6, 2) := by decide +kernel
theorem dX12_line_81 : decode cX12_line 81 = .ok (.goto 19, 3) := by decide +kernel
theorem dX12_line_84 : decode cX12_line 84 = .ok (.iload 4, 2) := by decide +kernel
theorem dX12_line_86 : decode cX12_line 86 = .ok (.iconst 1, 1) := by decide +kernel
theorem dX12_line_87 : decode cX12_line 87 = .ok (.if_icmp .ne 8, 3) := by decide +kernel
theorem dX12_line_90 : decode cX12_line 90 = .ok (.iload 7, 2) := by decide +kernel
theorem dX12_line_92 : decode cX12_line 92 = .ok (.goto 8, 3) := by decide +kernel
theorem dX12_line_95 : decode cX12_line 95 = .ok (.iload 6, 2) := by decide +kernel
theorem dX12_line_97 : decode cX12_line 97 = .ok (.iload 7, 2) := by decide +kernel
theorem dX12_line_99 : decode cX12_line 99 = .ok (.ior, 1) := by decide +kernel
theorem dX12_line_100 : decode cX12_line 100 = .ok (.iconst (-1), 1) := by decide +kernel
theorem dX12_line_101 : decode cX12_line 101 = .ok (.ixor, 1) := by decide +kernel
theorem dX12_line_102 : decode cX12_line 102 = .ok (.iand, 1) := by decide +kernel
theorem dX12_line_103 : decode cX12_line 103 = .ok (.invokestatic 378, 3) := by decide +kernel
theorem dX12_line_106 : decode cX12_line 106 = .ok (.ireturn, 1) := by decide +kernel
theorem dX12_luck_0 : decode cX12_luck 0 = .ok (.iload_n 1, 1) := by decide +kernel
theorem dX12_luck_1 : decode cX12_luck 1 = .ok (.invokestatic 423, 3) := by decide +kernel
theorem dX12_luck_4 : decode cX12_luck 4 = .ok (.ifCond .eq 21, 3) := by decide +kernel
theorem dX12_luck_7 : decode cX12_luck 7 = .ok (.iload_n 2, 1) := by decide +kernel
theorem dX12_luck_8 : decode cX12_luck 8 = .ok (.iload_n 3, 1) := by decide +kernel
theorem dX12_luck_9 : decode cX12_luck 9 = .ok (.invokestatic 408, 3) := by decide +kernel
theorem dX12_luck_12 : decode cX12_luck 12 = .ok (.ifCond .eq 13, 3) := by decide +kernel
theorem dX12_luck_15 : decode cX12_luck 15 = .ok (.iload 4, 2) := by decide +kernel
theorem dX12_luck_17 : decode cX12_luck 17 = .ok (.iconst 0, 1) := by decide +kernel
theorem dX12_luck_18 : decode cX12_luck 18 = .ok (.iconst 1, 1) := by decide +kernel
theorem dX12_luck_19 : decode cX12_luck 19 = .ok (.invokestatic 182, 3) := by decide +kernel
theorem dX12_luck_22 : decode cX12_luck 22 = .ok (.ifCond .ne 7, 3) := by decide +kernel
theorem dX12_luck_25 : decode cX12_luck 25 = .ok (.ldc2_w 222, 3) := by decide +kernel
theorem dX12_luck_28 : decode cX12_luck 28 = .ok (.lreturn, 1) := by decide +kernel
theorem dX12_luck_29 : decode cX12_luck 29 = .ok (.lconst 0, 1) := by decide +kernel
theorem dX12_luck_30 : decode cX12_luck 30 = .ok (.lstore 5, 2) := by decide +kernel
theorem dX12_luck_32 : decode cX12_luck 32 = .ok (.lconst 0, 1) := by decide +kernel
theorem dX12_luck_33 : decode cX12_luck 33 = .ok (.lstore 7, 2) := by decide +kernel
theorem dX12_luck_35 : decode cX12_luck 35 = .ok (.lconst 0, 1) := by decide +kernel
theorem dX12_luck_36 : decode cX12_luck 36 = .ok (.lstore 9, 2) := by decide +kernel
theorem dX12_luck_38 : decode cX12_luck 38 = .ok (.lconst 0, 1) := by decide +kernel
theorem dX12_luck_39 : decode cX12_luck 39 = .ok (.lstore 11, 2) := by decide +kernel
theorem dX12_luck_41 : decode cX12_luck 41 = .ok (.iload_n 2, 1) := by decide +kernel
theorem dX12_luck_42 : decode cX12_luck 42 = .ok (.istore 13, 2) := by decide +kernel
theorem dX12_luck_44 : decode cX12_luck 44 = .ok (.iload 13, 2) := by decide +kernel
theorem dX12_luck_46 : decode cX12_luck 46 = .ok (.iload_n 3, 1) := by decide +kernel
theorem dX12_luck_47 : decode cX12_luck 47 = .ok (.if_icmp .gt 239, 3) := by decide +kernel
theorem dX12_luck_50 : decode cX12_luck 50 = .ok (.iconst 0, 1) := by decide +kernel
theorem dX12_luck_51 : decode cX12_luck 51 = .ok (.istore 14, 2) := by decide +kernel
theorem dX12_luck_53 : decode cX12_luck 53 = .ok (.iload 14, 2) := by decide +kernel
theorem dX12_luck_55 : decode cX12_luck 55 = .ok (.aload_n 0, 1) := by decide +kernel
theorem dX12_luck_56 : decode cX12_luck 56 = .ok (.getfield 7, 3) := by decide +kernel
theorem dX12_luck_59 : decode cX12_luck 59 = .ok (.iconst 0, 1) := by decide +kernel
theorem dX12_luck_60 : decode cX12_luck 60 = .ok (.iaload, 1) := by decide +kernel
theorem dX12_luck_61 : decode cX12_luck 61 = .ok (.if_icmp .ge 219, 3) := by decide +kernel
theorem dX12_luck_280 : decode cX12_luck 280 = .ok (.iinc 13 1, 3) := by decide +kernel
theorem dX12_luck_283 : decode cX12_luck 283 = .ok (.goto (-239), 3) := by decide +kernel
theorem dX12_luck_286 : decode cX12_luck 286 = .ok (.lload 7, 2) := by decide +kernel
theorem dX12_luck_288 : decode cX12_luck 288 = .ok (.lconst 0, 1) := by decide +kernel
theorem dX12_luck_289 : decode cX12_luck 289 = .ok (.lcmp, 1) := by decide +kernel
theorem dX12_luck_290 : decode cX12_luck 290 = .ok (.ifCond .eq 10, 3) := by decide +kernel
theorem dX12_luck_300 : decode cX12_luck 300 = .ok (.ldc2_w 222, 3) := by decide +kernel
theorem dX12_luck_303 : decode cX12_luck 303 = .ok (.goto 18, 3) := by decide +kernel
theorem dX12_luck_321 : decode cX12_luck 321 = .ok (.lreturn, 1) := by decide +kernel
theorem dX12_most_0 : decode cX12_most 0 = .ok (.iload_n 1, 1) := by decide +kernel
theorem dX12_most_1 : decode cX12_most 1 = .ok (.iload_n 2, 1) := by decide +kernel
theorem dX12_most_2 : decode cX12_most 2 = .ok (.iload_n 3, 1) := by decide +kernel
theorem dX12_most_3 : decode cX12_most 3 = .ok (.invokestatic 489, 3) := by decide +kernel
theorem dX12_most_6 : decode cX12_most 6 = .ok (.ifCond .ne 5, 3) := by decide +kernel
theorem dX12_most_9 : decode cX12_most 9 = .ok (.iconst (-1), 1) := by decide +kernel
theorem dX12_most_10 : decode cX12_most 10 = .ok (.ireturn, 1) := by decide +kernel
theorem dX12_most_11 : decode cX12_most 11 = .ok (.iconst 0, 1) := by decide +kernel
theorem dX12_most_12 : decode cX12_most 12 = .ok (.istore 4, 2) := by decide +kernel
theorem dX12_most_14 : decode cX12_most 14 = .ok (.iconst 1, 1) := by decide +kernel
theorem dX12_most_15 : decode cX12_most 15 = .ok (.istore 5, 2) := by decide +kernel
theorem dX12_most_17 : decode cX12_most 17 = .ok (.iload 5, 2) := by decide +kernel
theorem dX12_most_19 : decode cX12_most 19 = .ok (.iconst 4, 1) := by decide +kernel
theorem dX12_most_20 : decode cX12_most 20 = .ok (.if_icmp .ge 36, 3) := by decide +kernel
theorem dX12_most_23 : decode cX12_most 23 = .ok (.aload_n 0, 1) := by decide +kernel
theorem dX12_most_24 : decode cX12_most 24 = .ok (.iload 5, 2) := by decide +kernel
theorem dX12_most_26 : decode cX12_most 26 = .ok (.iload_n 1, 1) := by decide +kernel
theorem dX12_most_27 : decode cX12_most 27 = .ok (.iload_n 2, 1) := by decide +kernel
theorem dX12_most_28 : decode cX12_most 28 = .ok (.iload_n 3, 1) := by decide +kernel
theorem dX12_most_29 : decode cX12_most 29 = .ok (.iconst 3, 1) := by decide +kernel
theorem dX12_most_30 : decode cX12_most 30 = .ok (.invokevirtual 492, 3) := by decide +kernel
theorem dX12_most_33 : decode cX12_most 33 = .ok (.aload_n 0, 1) := by decide +kernel
theorem dX12_most_34 : decode cX12_most 34 = .ok (.iload 4, 2) := by decide +kernel
theorem dX12_most_36 : decode cX12_most 36 = .ok (.iload_n 1, 1) := by decide +kernel
theorem dX12_most_37 : decode cX12_most 37 = .ok (.iload_n 2, 1) := by decide +kernel
theorem dX12_most_38 : decode cX12_most 38 = .ok (.iload_n 3, 1) := by decide +kernel
theorem dX12_most_39 : decode cX12_most 39 = .ok (.iconst 3, 1) := by decide +kernel
theorem dX12_most_40 : decode cX12_most 40 = .ok (.invokevirtual 492, 3) := by decide +kernel
theorem dX12_most_43 : decode cX12_most 43 = .ok (.if_icmp .le 7, 3) := by decide +kernel
theorem dX12_most_50 : decode cX12_most 50 = .ok (.iinc 5 1, 3) := by decide +kernel
theorem dX12_most_53 : decode cX12_most 53 = .ok (.goto (-36), 3) := by decide +kernel
theorem dX12_most_56 : decode cX12_most 56 = .ok (.iload 4, 2) := by decide +kernel
theorem dX12_most_58 : decode cX12_most 58 = .ok (.ireturn, 1) := by decide +kernel
theorem dX12_other_0 : decode cX12_other 0 = .ok (.iload_n 1, 1) := by decide +kernel
theorem dX12_other_1 : decode cX12_other 1 = .ok (.iconst 0, 1) := by decide +kernel
theorem dX12_other_2 : decode cX12_other 2 = .ok (.iconst 2, 1) := by decide +kernel
theorem dX12_other_3 : decode cX12_other 3 = .ok (.invokestatic 182, 3) := by decide +kernel
theorem dX12_other_6 : decode cX12_other 6 = .ok (.ifCond .ne 5, 3) := by decide +kernel
theorem dX12_other_9 : decode cX12_other 9 = .ok (.iconst (-1), 1) := by decide +kernel
theorem dX12_other_10 : decode cX12_other 10 = .ok (.ireturn, 1) := by decide +kernel
theorem dX12_other_11 : decode cX12_other 11 = .ok (.iconst (-1), 1) := by decide +kernel
theorem dX12_other_12 : decode cX12_other 12 = .ok (.istore_n 2, 1) := by decide +kernel
theorem dX12_other_13 : decode cX12_other 13 = .ok (.iconst 0, 1) := by decide +kernel
theorem dX12_other_14 : decode cX12_other 14 = .ok (.istore_n 3, 1) := by decide +kernel
theorem dX12_other_15 : decode cX12_other 15 = .ok (.lconst 0, 1) := by decide +kernel
theorem dX12_other_16 : decode cX12_other 16 = .ok (.lstore 4, 2) := by decide +kernel
theorem dX12_other_18 : decode cX12_other 18 = .ok (.iconst 0, 1) := by decide +kernel
theorem dX12_other_19 : decode cX12_other 19 = .ok (.istore 6, 2) := by decide +kernel
theorem dX12_other_21 : decode cX12_other 21 = .ok (.iload 6, 2) := by decide +kernel
theorem dX12_other_23 : decode cX12_other 23 = .ok (.aload_n 0, 1) := by decide +kernel
theorem dX12_other_24 : decode cX12_other 24 = .ok (.getfield 7, 3) := by decide +kernel
theorem dX12_other_27 : decode cX12_other 27 = .ok (.iconst 0, 1) := by decide +kernel
theorem dX12_other_28 : decode cX12_other 28 = .ok (.iaload, 1) := by decide +kernel
theorem dX12_other_29 : decode cX12_other 29 = .ok (.if_icmp .ge 71, 3) := by decide +kernel
theorem dX12_other_100 : decode cX12_other 100 = .ok (.iload_n 2, 1) := by decide +kernel
theorem dX12_other_101 : decode cX12_other 101 = .ok (.ifCond .ge 5, 3) := by decide +kernel
theorem dX12_other_104 : decode cX12_other 104 = .ok (.iconst (-1), 1) := by decide +kernel
theorem dX12_other_105 : decode cX12_other 105 = .ok (.ireturn, 1) := by decide +kernel
theorem dX12_right_0 : decode cX12_right 0 = .ok (.iload_n 1, 1) := by decide +kernel
theorem dX12_right_1 : decode cX12_right 1 = .ok (.invokestatic 190, 3) := by decide +kernel
theorem dX12_right_4 : decode cX12_right 4 = .ok (.ifCond .eq 21, 3) := by decide +kernel
theorem dX12_right_7 : decode cX12_right 7 = .ok (.iload_n 2, 1) := by decide +kernel
theorem dX12_right_8 : decode cX12_right 8 = .ok (.iconst 2, 1) := by decide +kernel
theorem dX12_right_9 : decode cX12_right 9 = .ok (.iconst 3, 1) := by decide +kernel
theorem dX12_right_10 : decode cX12_right 10 = .ok (.invokestatic 182, 3) := by decide +kernel
theorem dX12_right_13 : decode cX12_right 13 = .ok (.ifCond .eq 12, 3) := by decide +kernel
theorem dX12_right_16 : decode cX12_right 16 = .ok (.iload_n 3, 1) := by decide +kernel
theorem dX12_right_17 : decode cX12_right 17 = .ok (.iconst 0, 1) := by decide +kernel
theorem dX12_right_18 : decode cX12_right 18 = .ok (.iconst 1, 1) := by decide +kernel
theorem dX12_right_19 : decode cX12_right 19 = .ok (.invokestatic 182, 3) := by decide +kernel
theorem dX12_right_22 : decode cX12_right 22 = .ok (.ifCond .ne 7, 3) := by decide +kernel
theorem dX12_right_25 : decode cX12_right 25 = .ok (.ldc2_w 222, 3) := by decide +kernel
theorem dX12_right_28 : decode cX12_right 28 = .ok (.lreturn, 1) := by decide +kernel
theorem dX12_right_29 : decode cX12_right 29 = .ok (.lconst 0, 1) := by decide +kernel
theorem dX12_right_30 : decode cX12_right 30 = .ok (.lstore 4, 2) := by decide +kernel
theorem dX12_right_32 : decode cX12_right 32 = .ok (.lconst 0, 1) := by decide +kernel
theorem dX12_right_33 : decode cX12_right 33 = .ok (.lstore 6, 2) := by decide +kernel
theorem dX12_right_35 : decode cX12_right 35 = .ok (.lconst 0, 1) := by decide +kernel
theorem dX12_right_36 : decode cX12_right 36 = .ok (.lstore 8, 2) := by decide +kernel
theorem dX12_right_38 : decode cX12_right 38 = .ok (.lconst 0, 1) := by decide +kernel
theorem dX12_right_39 : decode cX12_right 39 = .ok (.lstore 10, 2) := by decide +kernel
theorem dX12_right_41 : decode cX12_right 41 = .ok (.lconst 0, 1) := by decide +kernel
theorem dX12_right_42 : decode cX12_right 42 = .ok (.lstore 12, 2) := by decide +kernel
theorem dX12_right_44 : decode cX12_right 44 = .ok (.iconst 0, 1) := by decide +kernel
theorem dX12_right_45 : decode cX12_right 45 = .ok (.istore 14, 2) := by decide +kernel
theorem dX12_right_47 : decode cX12_right 47 = .ok (.iload 14, 2) := by decide +kernel
theorem dX12_right_49 : decode cX12_right 49 = .ok (.aload_n 0, 1) := by decide +kernel
theorem dX12_right_50 : decode cX12_right 50 = .ok (.getfield 7, 3) := by decide +kernel
theorem dX12_right_53 : decode cX12_right 53 = .ok (.iconst 0, 1) := by decide +kernel
theorem dX12_right_54 : decode cX12_right 54 = .ok (.iaload, 1) := by decide +kernel
theorem dX12_right_55 : decode cX12_right 55 = .ok (.if_icmp .ge 116, 3) := by decide +kernel
theorem dX12_right_171 : decode cX12_right 171 = .ok (.lload 6, 2) := by decide +kernel
theorem dX12_right_173 : decode cX12_right 173 = .ok (.lconst 0, 1) := by decide +kernel
theorem dX12_right_174 : decode cX12_right 174 = .ok (.lcmp, 1) := by decide +kernel
theorem dX12_right_175 : decode cX12_right 175 = .ok (.ifCond .ne 9, 3) := by decide +kernel
theorem dX12_right_178 : decode cX12_right 178 = .ok (.ldc2_w 222, 3) := by decide +kernel
theorem dX12_right_181 : decode cX12_right 181 = .ok (.goto 40, 3) := by decide +kernel
theorem dX12_right_221 : decode cX12_right 221 = .ok (.lreturn, 1) := by decide +kernel
theorem dX12_worth_0 : decode cX12_worth 0 = .ok (.iload_n 1, 1) := by decide +kernel
theorem dX12_worth_1 : decode cX12_worth 1 = .ok (.iconst 1, 1) := by decide +kernel
theorem dX12_worth_2 : decode cX12_worth 2 = .ok (.bipush 11, 2) := by decide +kernel
theorem dX12_worth_4 : decode cX12_worth 4 = .ok (.invokestatic 182, 3) := by decide +kernel
theorem dX12_worth_7 : decode cX12_worth 7 = .ok (.ifCond .eq 21, 3) := by decide +kernel
theorem dX12_worth_10 : decode cX12_worth 10 = .ok (.iload_n 2, 1) := by decide +kernel
theorem dX12_worth_11 : decode cX12_worth 11 = .ok (.iload_n 3, 1) := by decide +kernel
theorem dX12_worth_12 : decode cX12_worth 12 = .ok (.invokestatic 408, 3) := by decide +kernel
theorem dX12_worth_15 : decode cX12_worth 15 = .ok (.ifCond .eq 13, 3) := by decide +kernel
theorem dX12_worth_18 : decode cX12_worth 18 = .ok (.iload 4, 2) := by decide +kernel
theorem dX12_worth_20 : decode cX12_worth 20 = .ok (.iconst 0, 1) := by decide +kernel
theorem dX12_worth_21 : decode cX12_worth 21 = .ok (.iconst 1, 1) := by decide +kernel
theorem dX12_worth_22 : decode cX12_worth 22 = .ok (.invokestatic 182, 3) := by decide +kernel
theorem dX12_worth_25 : decode cX12_worth 25 = .ok (.ifCond .ne 7, 3) := by decide +kernel
theorem dX12_worth_28 : decode cX12_worth 28 = .ok (.ldc2_w 523, 3) := by decide +kernel
theorem dX12_worth_31 : decode cX12_worth 31 = .ok (.lreturn, 1) := by decide +kernel
theorem dX12_worth_32 : decode cX12_worth 32 = .ok (.aload_n 0, 1) := by decide +kernel
theorem dX12_worth_33 : decode cX12_worth 33 = .ok (.iload_n 1, 1) := by decide +kernel
theorem dX12_worth_34 : decode cX12_worth 34 = .ok (.iload_n 2, 1) := by decide +kernel
theorem dX12_worth_35 : decode cX12_worth 35 = .ok (.iload_n 3, 1) := by decide +kernel
theorem dX12_worth_36 : decode cX12_worth 36 = .ok (.invokevirtual 525, 3) := by decide +kernel
theorem dX12_worth_39 : decode cX12_worth 39 = .ok (.aload_n 0, 1) := by decide +kernel
theorem dX12_worth_40 : decode cX12_worth 40 = .ok (.getfield 520, 3) := by decide +kernel
theorem dX12_worth_43 : decode cX12_worth 43 = .ok (.lconst 0, 1) := by decide +kernel
theorem dX12_worth_44 : decode cX12_worth 44 = .ok (.lcmp, 1) := by decide +kernel
theorem dX12_worth_45 : decode cX12_worth 45 = .ok (.ifCond .ne 9, 3) := by decide +kernel
theorem dX12_worth_48 : decode cX12_worth 48 = .ok (.ldc2_w 523, 3) := by decide +kernel
theorem dX12_worth_51 : decode cX12_worth 51 = .ok (.goto 16, 3) := by decide +kernel
theorem dX12_worth_67 : decode cX12_worth 67 = .ok (.lreturn, 1) := by decide +kernel
set_option maxHeartbeats 4000000 in
set_option maxRecDepth 100000 in
theorem cm_bestOf (l : Launch) (D : va_G) (cI cJ cZ cB : ClassId) (cO : ClassId) (a : Nat → Nat) (v : Int32) :
    CI l D [(cI, .int), (cJ, .long), (cZ, .boolean), (cB, .byte), (cO, .object "LuckLinks$World")] yX12_bestOf cX12_bestOf 8 (some .int) ({ frames := 0, cells := 0, slots := 0, locals := 0 } : Room) [.ref (a 0), .int v] [((a 0), .inr (12, (mF a))), ((a 1), .inl (cI, 4, .inl (fun _ => (0 : Int32))))] (fun (r : Int32) (u : Unit) => (r = (-1 : Int32) ∧ True)) (fun (_ : Unit) => [((a 0), .inr (12, (mF a))), ((a 1), .inl (cI, 4, .inl (fun _ => (0 : Int32))))]) := by
  intro sz
  refine body_of (y := yX12_bestOf) (cc := cX12_bestOf) (maxL := 8) (ret := (some .int)) (rm := ({ frames := 0, cells := 0, slots := 0, locals := 0 } : Room)) (wc := [((a 0), .inr (12, (mF a))), ((a 1), .inl (cI, 4, .inl (fun _ => (0 : Int32))))]) (tys := [(cI, .int), (cJ, .long), (cZ, .boolean), (cB, .byte), (cO, .object "LuckLinks$World")]) (D := D) (sz := sz) (own := RX12) (av := [.ref (a 0), .int v]) (Qc := fun A => va_Qi (fun (r : Int32) (u : Unit) => (r = (-1 : Int32) ∧ True)) (fun u t => Aft D A ((fun (_ : Unit) => [((a 0), .inr (12, (mF a))), ((a 1), .inl (cI, 4, .inl (fun _ => (0 : Int32))))]) u) t) A) (by decide) rfl (Nat.le_of_ble_eq_true rfl) (fun p e s m below meth c A ls C hr hlk hin X hl => ?_)
  have hx := C.1
  have hb := C.2.1
  have hown := C.2.2.2.1
  have hts := C.2.2.2.2.1
  have hl : lv_has ls 8 [(0, .ref (a 0)), (1, .int v)] := hl
  show W p l e _ s m _ below meth c s.heap [] 0 0 (MQ below (va_Qi (fun (r : Int32) (u : Unit) => (r = (-1 : Int32) ∧ True)) (fun u t => Aft D A ((fun (_ : Unit) => [((a 0), .inr (12, (mF a))), ((a 1), .inl (cI, 4, .inl (fun _ => (0 : Int32))))]) u) t) A) ([.ref (a 0), .int v] : List Value).toArray s 0 0 A) (F0 m 0 ls [])
  have X : Wd D A s [((a 0), .inr (12, (mF a))), ((a 1), .inl (cI, 4, .inl (fun _ => (0 : Int32))))] s.heap [] := X
  obtain ⟨H, locs, eH, eL⟩ : ∃ H locs, H = s.heap ∧ locs = ([] : List Loc) := ⟨_, _, rfl, rfl⟩
  rw [← eH, ← eL] at X ⊢
  clear eH eL
  refine lv_iconst (v := (-1 : Int32)) hx hb dX12_bestOf_0 (by decide) ?_
  refine lv_istore_n (lv' := [(2, .int (-1 : Int32)), (0, .ref (a 0)), (1, .int v)]) hx hb dX12_bestOf_1 rfl hl (by decide) rfl (fun ls hl => ?_)
  refine lv_lconst (v := (0 : Int64)) hx hb dX12_bestOf_2 (by decide) ?_
  refine lv_lstore_n (lv' := [(3, .long (0 : Int64)), (2, .int (-1 : Int32)), (0, .ref (a 0)), (1, .int v)]) hx hb dX12_bestOf_3 rfl hl (by decide) rfl (fun ls hl => ?_)
  refine lv_lconst (v := (1 : Int64)) hx hb dX12_bestOf_4 (by decide) ?_
  refine lv_lstore (lv' := [(5, .long (1 : Int64)), (3, .long (0 : Int64)), (2, .int (-1 : Int32)), (0, .ref (a 0)), (1, .int v)]) hx hb dX12_bestOf_5 hl (by decide) rfl (fun ls hl => ?_)
  refine lv_iconst (v := (0 : Int32)) hx hb dX12_bestOf_7 (by decide) ?_
  refine lv_istore (lv' := [(7, .int (0 : Int32)), (5, .long (1 : Int64)), (3, .long (0 : Int64)), (2, .int (-1 : Int32)), (0, .ref (a 0)), (1, .int v)]) hx hb dX12_bestOf_8 hl (by decide) rfl (fun ls hl => ?_)
  refine lv_iload hx hb dX12_bestOf_10 (lv_at hl 0 rfl) ?_
  refine lv_aload_n hx hb dX12_bestOf_12 rfl (lv_at hl 4 rfl) ?_
  refine x_get (own := RX12) (T := TX12) C X 0 rfl rfl 0 (by decide) k_9_16 rfl rfl (v := .ref (a 1)) rfl dX12_bestOf_13 ?_
  refine lv_iconst (v := (0 : Int32)) hx hb dX12_bestOf_16 (by decide) ?_
  refine x_iald C X 1 0 rfl rfl (j := 0) rfl (vp_in_nI (n := 0) (by omega) (by omega)) (v := (0 : Int32)) (rfl) dX12_bestOf_17 ?_
  refine lv_icmp_ge (tgt := 83) hx hb dX12_bestOf_18 (by decide) (fun _ => ?_) (fun c0 => absurd (by decide) c0)
  refine lv_iload_n hx hb dX12_bestOf_83 rfl (lv_at hl 3 rfl) ?_
  exact x_iret C X hr hlk (v := (-1 : Int32)) (by first | rfl | decide) (()) [0, 1] (by decide) rfl (⟨rfl, trivial⟩) (Nat.le_of_ble_eq_true rfl) (Nat.le_of_ble_eq_true rfl) dX12_bestOf_84
set_option maxHeartbeats 4000000 in
set_option maxRecDepth 100000 in
theorem cm_best (l : Launch) (D : va_G) (cI cJ cZ cB : ClassId) (cO : ClassId) (a : Nat → Nat) (p1 : Int32) :
    CI l D [(cI, .int), (cJ, .long), (cZ, .boolean), (cB, .byte), (cO, .object "LuckLinks$World")] yX12_best cX12_best 2 (some .int) ({ frames := 1, cells := 0, slots := 0, locals := 27 } : Room) [.ref (a 0), .int p1] [((a 0), .inr (12, (mF a))), ((a 1), .inl (cI, 4, .inl (fun _ => (0 : Int32))))] (fun (r : Int32) (u : Unit) => (r = (-1 : Int32) ∧ True)) (fun (_ : Unit) => []) := by
  intro sz
  refine body_of (y := yX12_best) (cc := cX12_best) (maxL := 2) (ret := (some .int)) (rm := ({ frames := 1, cells := 0, slots := 0, locals := 27 } : Room)) (wc := [((a 0), .inr (12, (mF a))), ((a 1), .inl (cI, 4, .inl (fun _ => (0 : Int32))))]) (tys := [(cI, .int), (cJ, .long), (cZ, .boolean), (cB, .byte), (cO, .object "LuckLinks$World")]) (D := D) (sz := sz) (own := RX12) (av := [.ref (a 0), .int p1]) (Qc := fun A => va_Qi (fun (r : Int32) (u : Unit) => (r = (-1 : Int32) ∧ True)) (fun u t => Aft D A ((fun (_ : Unit) => []) u) t) A) (by decide) rfl (Nat.le_of_ble_eq_true rfl) (fun p e s m below meth c A ls C hr hlk hin X hl => ?_)
  have hx := C.1
  have hb := C.2.1
  have hown := C.2.2.2.1
  have hts := C.2.2.2.2.1
  have hl : lv_has ls 2 [(0, .ref (a 0)), (1, .int p1)] := hl
  show W p l e _ s m _ below meth c s.heap [] 0 0 (MQ below (va_Qi (fun (r : Int32) (u : Unit) => (r = (-1 : Int32) ∧ True)) (fun u t => Aft D A ((fun (_ : Unit) => []) u) t) A) ([.ref (a 0), .int p1] : List Value).toArray s 0 0 A) (F0 m 0 ls [])
  have X : Wd D A s [((a 0), .inr (12, (mF a))), ((a 1), .inl (cI, 4, .inl (fun _ => (0 : Int32))))] s.heap [] := X
  obtain ⟨H, locs, eH, eL⟩ : ∃ H locs, H = s.heap ∧ locs = ([] : List Loc) := ⟨_, _, rfl, rfl⟩
  rw [← eH, ← eL] at X ⊢
  clear eH eL
  refine lv_iload_n hx hb dX12_best_0 rfl (lv_at hl 1 rfl) ?_
  refine x_cS (own := RX12) (wr := [((a 0), .inr (12, (mF a))), ((a 1), .inl (cI, 4, .inl (fun _ => (0 : Int32))))]) (As := [.int p1]) C X hl.1 (c_isAhead l D cI cJ cZ cB cO p1) [] [0, 1] ⟨rfl, rfl, by decide, by decide, by decide⟩ k_48_14 k_48_15 k_1_5 k_48_16 (n := 1) (by decide +kernel) ⟨Nat.le_of_ble_eq_true rfl, Nat.le_of_ble_eq_true rfl⟩ rfl rfl (Nat.le_of_ble_eq_true rfl) dX12_best_1 ⟨Nat.le_of_ble_eq_true rfl, Nat.le_of_ble_eq_true rfl⟩ (fun r_2 u_1 H locs w_3 X => ?_)
  have X : Wd D A s [((a 0), .inr (12, (mF a))), ((a 1), .inl (cI, 4, .inl (fun _ => (0 : Int32))))] H locs := X
  refine W.widen (k := 0) (n := 0) (Nat.le_of_ble_eq_true rfl) (Nat.le_of_ble_eq_true rfl) ?_
  obtain ⟨rfl, fw_3⟩ | ⟨rfl, fw_3⟩ : (r_2 = (1 : Int32) ∧ (0 ≤ (p1).toInt ∧ (p1).toInt ≤ 40)) ∨ (r_2 = (0 : Int32) ∧ ((p1).toInt < 0 ∨ 40 < (p1).toInt)) := w_3
  · refine lv_if_eq (tgt := 15) hx hb dX12_best_4 (by decide) (fun c0 => absurd c0 (by decide)) (fun _ => ?_)
    refine lv_aload_n hx hb dX12_best_7 rfl (lv_at hl 0 rfl) ?_
    refine lv_iload_n hx hb dX12_best_8 rfl (lv_at hl 1 rfl) ?_
    refine x_cV (own := RX12) (wr := []) (As := [.int p1]) C X hl.1 (cm_bestOf l D cI cJ cZ cB cO a p1) [0, 1] [] ⟨rfl, rfl, by decide, by decide, by decide⟩ (qb := 0) rfl rfl k_50_20 k_50_21 k_50_22 k_1_5 k_50_23 (n := 1) (by decide +kernel) ⟨Nat.le_of_ble_eq_true rfl, Nat.le_of_ble_eq_true rfl⟩ rfl rfl (Nat.le_of_ble_eq_true rfl) dX12_best_9 ⟨Nat.le_of_ble_eq_true rfl, Nat.le_of_ble_eq_true rfl⟩ (fun r_5 u_4 H locs w_6 X => ?_)
    have X : Wd D A s [((a 0), .inr (12, (mF a))), ((a 1), .inl (cI, 4, .inl (fun _ => (0 : Int32))))] H locs := X
    refine W.widen (k := 0) (n := 0) (Nat.le_of_ble_eq_true rfl) (Nat.le_of_ble_eq_true rfl) ?_
    obtain ⟨rfl, fw_6⟩ : r_5 = (-1 : Int32) ∧ True := w_6
    refine lv_goto (tgt := 16) hx hb dX12_best_12 (by decide) ?_
    exact x_iret C X hr hlk (v := (-1 : Int32)) (by first | rfl | decide) (()) [] (by decide) rfl (⟨rfl, trivial⟩) (Nat.le_of_ble_eq_true rfl) (Nat.le_of_ble_eq_true rfl) dX12_best_16
  · refine lv_if_eq (tgt := 15) hx hb dX12_best_4 (by decide) (fun _ => ?_) (fun c0 => absurd (by decide) c0)
    refine lv_iconst (v := (-1 : Int32)) hx hb dX12_best_15 (by decide) ?_
    exact x_iret C X hr hlk (v := (-1 : Int32)) (by first | rfl | decide) (()) [] (by decide) rfl (⟨rfl, trivial⟩) (Nat.le_of_ble_eq_true rfl) (Nat.le_of_ble_eq_true rfl) dX12_best_16
set_option maxHeartbeats 4000000 in
set_option maxRecDepth 100000 in
theorem cm_other (l : Launch) (D : va_G) (cI cJ cZ cB : ClassId) (cO : ClassId) (a : Nat → Nat) (p1 : Int32) :
    CI l D [(cI, .int), (cJ, .long), (cZ, .boolean), (cB, .byte), (cO, .object "LuckLinks$World")] yX12_other cX12_other 9 (some .int) ({ frames := 1, cells := 0, slots := 0, locals := 22 } : Room) [.ref (a 0), .int p1] [((a 0), .inr (12, (mF a))), ((a 1), .inl (cI, 4, .inl (fun _ => (0 : Int32))))] (fun (r : Int32) (u : Unit) => (r = (-1 : Int32) ∧ True)) (fun (_ : Unit) => []) := by
  intro sz
  refine body_of (y := yX12_other) (cc := cX12_other) (maxL := 9) (ret := (some .int)) (rm := ({ frames := 1, cells := 0, slots := 0, locals := 22 } : Room)) (wc := [((a 0), .inr (12, (mF a))), ((a 1), .inl (cI, 4, .inl (fun _ => (0 : Int32))))]) (tys := [(cI, .int), (cJ, .long), (cZ, .boolean), (cB, .byte), (cO, .object "LuckLinks$World")]) (D := D) (sz := sz) (own := RX12) (av := [.ref (a 0), .int p1]) (Qc := fun A => va_Qi (fun (r : Int32) (u : Unit) => (r = (-1 : Int32) ∧ True)) (fun u t => Aft D A ((fun (_ : Unit) => []) u) t) A) (by decide) rfl (Nat.le_of_ble_eq_true rfl) (fun p e s m below meth c A ls C hr hlk hin X hl => ?_)
  have hx := C.1
  have hb := C.2.1
  have hown := C.2.2.2.1
  have hts := C.2.2.2.2.1
  have hl : lv_has ls 9 [(0, .ref (a 0)), (1, .int p1)] := hl
  show W p l e _ s m _ below meth c s.heap [] 0 0 (MQ below (va_Qi (fun (r : Int32) (u : Unit) => (r = (-1 : Int32) ∧ True)) (fun u t => Aft D A ((fun (_ : Unit) => []) u) t) A) ([.ref (a 0), .int p1] : List Value).toArray s 0 0 A) (F0 m 0 ls [])
  have X : Wd D A s [((a 0), .inr (12, (mF a))), ((a 1), .inl (cI, 4, .inl (fun _ => (0 : Int32))))] s.heap [] := X
  obtain ⟨H, locs, eH, eL⟩ : ∃ H locs, H = s.heap ∧ locs = ([] : List Loc) := ⟨_, _, rfl, rfl⟩
  rw [← eH, ← eL] at X ⊢
  clear eH eL
  refine lv_iload_n hx hb dX12_other_0 rfl (lv_at hl 1 rfl) ?_
  refine lv_iconst (v := (0 : Int32)) hx hb dX12_other_1 (by decide) ?_
  refine lv_iconst (v := (2 : Int32)) hx hb dX12_other_2 (by decide) ?_
  refine x_cS (own := RX12) (wr := [((a 0), .inr (12, (mF a))), ((a 1), .inl (cI, 4, .inl (fun _ => (0 : Int32))))]) (As := [.int p1, .int (0 : Int32), .int (2 : Int32)]) C X hl.1 (c_within l D cI cJ cZ cB cO p1 (0 : Int32) (2 : Int32)) [] [0, 1] ⟨rfl, rfl, by decide, by decide, by decide⟩ k_12_23 k_13_0 k_1_5 k_13_1 (n := 3) (by decide +kernel) ⟨Nat.le_of_ble_eq_true rfl, Nat.le_of_ble_eq_true rfl⟩ rfl rfl (Nat.le_of_ble_eq_true rfl) dX12_other_3 ⟨Nat.le_of_ble_eq_true rfl, Nat.le_of_ble_eq_true rfl⟩ (fun r_2 u_1 H locs w_3 X => ?_)
  have X : Wd D A s [((a 0), .inr (12, (mF a))), ((a 1), .inl (cI, 4, .inl (fun _ => (0 : Int32))))] H locs := X
  refine W.widen (k := 0) (n := 0) (Nat.le_of_ble_eq_true rfl) (Nat.le_of_ble_eq_true rfl) ?_
  obtain ⟨rfl, fw_3⟩ | ⟨rfl, fw_3⟩ : (r_2 = (1 : Int32) ∧ ((0 : Int) ≤ (p1).toInt ∧ (p1).toInt ≤ (2 : Int))) ∨ (r_2 = (0 : Int32) ∧ ((p1).toInt < (0 : Int) ∨ (2 : Int) < (p1).toInt)) := w_3
  · refine lv_if_ne (tgt := 11) hx hb dX12_other_6 (by decide) (fun _ => ?_) (fun c0 => absurd c0 (by decide))
    refine lv_iconst (v := (-1 : Int32)) hx hb dX12_other_11 (by decide) ?_
    refine lv_istore_n (lv' := [(2, .int (-1 : Int32)), (0, .ref (a 0)), (1, .int p1)]) hx hb dX12_other_12 rfl hl (by decide) rfl (fun ls hl => ?_)
    refine lv_iconst (v := (0 : Int32)) hx hb dX12_other_13 (by decide) ?_
    refine lv_istore_n (lv' := [(3, .int (0 : Int32)), (2, .int (-1 : Int32)), (0, .ref (a 0)), (1, .int p1)]) hx hb dX12_other_14 rfl hl (by decide) rfl (fun ls hl => ?_)
    refine lv_lconst (v := (0 : Int64)) hx hb dX12_other_15 (by decide) ?_
    refine lv_lstore (lv' := [(4, .long (0 : Int64)), (3, .int (0 : Int32)), (2, .int (-1 : Int32)), (0, .ref (a 0)), (1, .int p1)]) hx hb dX12_other_16 hl (by decide) rfl (fun ls hl => ?_)
    refine lv_iconst (v := (0 : Int32)) hx hb dX12_other_18 (by decide) ?_
    refine lv_istore (lv' := [(6, .int (0 : Int32)), (4, .long (0 : Int64)), (3, .int (0 : Int32)), (2, .int (-1 : Int32)), (0, .ref (a 0)), (1, .int p1)]) hx hb dX12_other_19 hl (by decide) rfl (fun ls hl => ?_)
    refine lv_iload hx hb dX12_other_21 (lv_at hl 0 rfl) ?_
    refine lv_aload_n hx hb dX12_other_23 rfl (lv_at hl 4 rfl) ?_
    refine x_get (own := RX12) (T := TX12) C X 0 rfl rfl 0 (by decide) k_9_16 rfl rfl (v := .ref (a 1)) rfl dX12_other_24 ?_
    refine lv_iconst (v := (0 : Int32)) hx hb dX12_other_27 (by decide) ?_
    refine x_iald C X 1 0 rfl rfl (j := 0) rfl (vp_in_nI (n := 0) (by omega) (by omega)) (v := (0 : Int32)) (rfl) dX12_other_28 ?_
    refine lv_icmp_ge (tgt := 100) hx hb dX12_other_29 (by decide) (fun _ => ?_) (fun c0 => absurd (by decide) c0)
    refine lv_iload_n hx hb dX12_other_100 rfl (lv_at hl 3 rfl) ?_
    refine lv_if_ge (tgt := 106) hx hb dX12_other_101 (by decide) (fun c0 => absurd c0 (by decide)) (fun _ => ?_)
    refine lv_iconst (v := (-1 : Int32)) hx hb dX12_other_104 (by decide) ?_
    exact x_iret C X hr hlk (v := (-1 : Int32)) (by first | rfl | decide) (()) [] (by decide) rfl (⟨rfl, trivial⟩) (Nat.le_of_ble_eq_true rfl) (Nat.le_of_ble_eq_true rfl) dX12_other_105
  · refine lv_if_ne (tgt := 11) hx hb dX12_other_6 (by decide) (fun c0 => absurd (by decide) c0) (fun _ => ?_)
    refine lv_iconst (v := (-1 : Int32)) hx hb dX12_other_9 (by decide) ?_
    exact x_iret C X hr hlk (v := (-1 : Int32)) (by first | rfl | decide) (()) [] (by decide) rfl (⟨rfl, trivial⟩) (Nat.le_of_ble_eq_true rfl) (Nat.le_of_ble_eq_true rfl) dX12_other_10
set_option maxHeartbeats 4000000 in
set_option maxRecDepth 100000 in
theorem cm_held (l : Launch) (D : va_G) (cI cJ cZ cB : ClassId) (cO : ClassId) (a : Nat → Nat) (p1 : Int32) (p2 : Int32) :
    CI l D [(cI, .int), (cJ, .long), (cZ, .boolean), (cB, .byte), (cO, .object "LuckLinks$World")] yX12_held_ cX12_held_ 7 (some .int) ({ frames := 1, cells := 0, slots := 0, locals := 22 } : Room) [.ref (a 0), .int p1, .int p2] [((a 0), .inr (12, (mF a))), ((a 1), .inl (cI, 4, .inl (fun _ => (0 : Int32))))] (fun (r : Int32) (u : Unit) => (r = (0 : Int32) ∧ (0 ≤ p1.toInt ∧ p1.toInt ≤ 39 ∧ 0 ≤ p2.toInt ∧ p2.toInt ≤ 4)) ∨ (r = (-1 : Int32) ∧ (p1.toInt < 0 ∨ 39 < p1.toInt ∨ p2.toInt < 0 ∨ 4 < p2.toInt))) (fun (_ : Unit) => []) := by
  intro sz
  refine body_of (y := yX12_held_) (cc := cX12_held_) (maxL := 7) (ret := (some .int)) (rm := ({ frames := 1, cells := 0, slots := 0, locals := 22 } : Room)) (wc := [((a 0), .inr (12, (mF a))), ((a 1), .inl (cI, 4, .inl (fun _ => (0 : Int32))))]) (tys := [(cI, .int), (cJ, .long), (cZ, .boolean), (cB, .byte), (cO, .object "LuckLinks$World")]) (D := D) (sz := sz) (own := RX12) (av := [.ref (a 0), .int p1, .int p2]) (Qc := fun A => va_Qi (fun (r : Int32) (u : Unit) => (r = (0 : Int32) ∧ (0 ≤ p1.toInt ∧ p1.toInt ≤ 39 ∧ 0 ≤ p2.toInt ∧ p2.toInt ≤ 4)) ∨ (r = (-1 : Int32) ∧ (p1.toInt < 0 ∨ 39 < p1.toInt ∨ p2.toInt < 0 ∨ 4 < p2.toInt))) (fun u t => Aft D A ((fun (_ : Unit) => []) u) t) A) (by decide) rfl (Nat.le_of_ble_eq_true rfl) (fun p e s m below meth c A ls C hr hlk hin X hl => ?_)
  have hx := C.1
  have hb := C.2.1
  have hown := C.2.2.2.1
  have hts := C.2.2.2.2.1
  have hl : lv_has ls 7 [(0, .ref (a 0)), (1, .int p1), (2, .int p2)] := hl
  show W p l e _ s m _ below meth c s.heap [] 0 0 (MQ below (va_Qi (fun (r : Int32) (u : Unit) => (r = (0 : Int32) ∧ (0 ≤ p1.toInt ∧ p1.toInt ≤ 39 ∧ 0 ≤ p2.toInt ∧ p2.toInt ≤ 4)) ∨ (r = (-1 : Int32) ∧ (p1.toInt < 0 ∨ 39 < p1.toInt ∨ p2.toInt < 0 ∨ 4 < p2.toInt))) (fun u t => Aft D A ((fun (_ : Unit) => []) u) t) A) ([.ref (a 0), .int p1, .int p2] : List Value).toArray s 0 0 A) (F0 m 0 ls [])
  have X : Wd D A s [((a 0), .inr (12, (mF a))), ((a 1), .inl (cI, 4, .inl (fun _ => (0 : Int32))))] s.heap [] := X
  obtain ⟨H, locs, eH, eL⟩ : ∃ H locs, H = s.heap ∧ locs = ([] : List Loc) := ⟨_, _, rfl, rfl⟩
  rw [← eH, ← eL] at X ⊢
  clear eH eL
  refine lv_iload_n hx hb dX12_held__0 rfl (lv_at hl 1 rfl) ?_
  refine x_cS (own := RX12) (wr := [((a 0), .inr (12, (mF a))), ((a 1), .inl (cI, 4, .inl (fun _ => (0 : Int32))))]) (As := [.int p1]) C X hl.1 (c_isWeekM l D cI cJ cZ cB cO p1) [] [0, 1] ⟨rfl, rfl, by decide, by decide, by decide⟩ k_14_11 k_14_12 k_1_5 k_14_13 (n := 1) (by decide +kernel) ⟨Nat.le_of_ble_eq_true rfl, Nat.le_of_ble_eq_true rfl⟩ rfl rfl (Nat.le_of_ble_eq_true rfl) dX12_held__1 ⟨Nat.le_of_ble_eq_true rfl, Nat.le_of_ble_eq_true rfl⟩ (fun r_2 u_1 H locs w_3 X => ?_)
  have X : Wd D A s [((a 0), .inr (12, (mF a))), ((a 1), .inl (cI, 4, .inl (fun _ => (0 : Int32))))] H locs := X
  refine W.widen (k := 0) (n := 0) (Nat.le_of_ble_eq_true rfl) (Nat.le_of_ble_eq_true rfl) ?_
  obtain ⟨rfl, fw_3⟩ | ⟨rfl, fw_3⟩ : (r_2 = (1 : Int32) ∧ (0 ≤ (p1).toInt ∧ (p1).toInt ≤ 39)) ∨ (r_2 = (0 : Int32) ∧ ((p1).toInt < 0 ∨ 39 < (p1).toInt)) := w_3
  · refine lv_if_eq (tgt := 16) hx hb dX12_held__4 (by decide) (fun c0 => absurd c0 (by decide)) (fun _ => ?_)
    refine lv_iload_n hx hb dX12_held__7 rfl (lv_at hl 2 rfl) ?_
    refine lv_iconst (v := (0 : Int32)) hx hb dX12_held__8 (by decide) ?_
    refine lv_iconst (v := (4 : Int32)) hx hb dX12_held__9 (by decide) ?_
    refine x_cS (own := RX12) (wr := [((a 0), .inr (12, (mF a))), ((a 1), .inl (cI, 4, .inl (fun _ => (0 : Int32))))]) (As := [.int p2, .int (0 : Int32), .int (4 : Int32)]) C X hl.1 (c_within l D cI cJ cZ cB cO p2 (0 : Int32) (4 : Int32)) [] [0, 1] ⟨rfl, rfl, by decide, by decide, by decide⟩ k_12_23 k_13_0 k_1_5 k_13_1 (n := 3) (by decide +kernel) ⟨Nat.le_of_ble_eq_true rfl, Nat.le_of_ble_eq_true rfl⟩ rfl rfl (Nat.le_of_ble_eq_true rfl) dX12_held__10 ⟨Nat.le_of_ble_eq_true rfl, Nat.le_of_ble_eq_true rfl⟩ (fun r_5 u_4 H locs w_6 X => ?_)
    have X : Wd D A s [((a 0), .inr (12, (mF a))), ((a 1), .inl (cI, 4, .inl (fun _ => (0 : Int32))))] H locs := X
    refine W.widen (k := 0) (n := 0) (Nat.le_of_ble_eq_true rfl) (Nat.le_of_ble_eq_true rfl) ?_
    obtain ⟨rfl, fw_6⟩ | ⟨rfl, fw_6⟩ : (r_5 = (1 : Int32) ∧ ((0 : Int) ≤ (p2).toInt ∧ (p2).toInt ≤ (4 : Int))) ∨ (r_5 = (0 : Int32) ∧ ((p2).toInt < (0 : Int) ∨ (4 : Int) < (p2).toInt)) := w_6
    · refine lv_if_ne (tgt := 18) hx hb dX12_held__13 (by decide) (fun _ => ?_) (fun c0 => absurd c0 (by decide))
      refine lv_iconst (v := (0 : Int32)) hx hb dX12_held__18 (by decide) ?_
      refine lv_istore_n (lv' := [(3, .int (0 : Int32)), (0, .ref (a 0)), (1, .int p1), (2, .int p2)]) hx hb dX12_held__19 rfl hl (by decide) rfl (fun ls hl => ?_)
      refine lv_iconst (v := (0 : Int32)) hx hb dX12_held__20 (by decide) ?_
      refine lv_istore (lv' := [(4, .int (0 : Int32)), (3, .int (0 : Int32)), (0, .ref (a 0)), (1, .int p1), (2, .int p2)]) hx hb dX12_held__21 hl (by decide) rfl (fun ls hl => ?_)
      refine lv_iload hx hb dX12_held__23 (lv_at hl 0 rfl) ?_
      refine lv_aload_n hx hb dX12_held__25 rfl (lv_at hl 2 rfl) ?_
      refine x_get (own := RX12) (T := TX12) C X 0 rfl rfl 0 (by decide) k_9_16 rfl rfl (v := .ref (a 1)) rfl dX12_held__26 ?_
      refine lv_iconst (v := (0 : Int32)) hx hb dX12_held__29 (by decide) ?_
      refine x_iald C X 1 0 rfl rfl (j := 0) rfl (vp_in_nI (n := 0) (by omega) (by omega)) (v := (0 : Int32)) (rfl) dX12_held__30 ?_
      refine lv_icmp_ge (tgt := 169) hx hb dX12_held__31 (by decide) (fun _ => ?_) (fun c0 => absurd (by decide) c0)
      refine lv_iload_n hx hb dX12_held__169 rfl (lv_at hl 1 rfl) ?_
      exact x_iret C X hr hlk (v := (0 : Int32)) (by first | rfl | decide) (()) [] (by decide) rfl (Or.inl (⟨rfl, by omega⟩)) (Nat.le_of_ble_eq_true rfl) (Nat.le_of_ble_eq_true rfl) dX12_held__170
    · refine lv_if_ne (tgt := 18) hx hb dX12_held__13 (by decide) (fun c0 => absurd (by decide) c0) (fun _ => ?_)
      refine lv_iconst (v := (-1 : Int32)) hx hb dX12_held__16 (by decide) ?_
      exact x_iret C X hr hlk (v := (-1 : Int32)) (by first | rfl | decide) (()) [] (by decide) rfl (Or.inr (⟨rfl, by omega⟩)) (Nat.le_of_ble_eq_true rfl) (Nat.le_of_ble_eq_true rfl) dX12_held__17
  · refine lv_if_eq (tgt := 16) hx hb dX12_held__4 (by decide) (fun _ => ?_) (fun c0 => absurd (by decide) c0)
    refine lv_iconst (v := (-1 : Int32)) hx hb dX12_held__16 (by decide) ?_
    exact x_iret C X hr hlk (v := (-1 : Int32)) (by first | rfl | decide) (()) [] (by decide) rfl (Or.inr (⟨rfl, by omega⟩)) (Nat.le_of_ble_eq_true rfl) (Nat.le_of_ble_eq_true rfl) dX12_held__17
set_option maxHeartbeats 4000000 in
set_option maxRecDepth 100000 in
theorem cm_right (l : Launch) (D : va_G) (cI cJ cZ cB : ClassId) (cO : ClassId) (a : Nat → Nat) (p1 : Int32) (p2 : Int32) (p3 : Int32) :
    CL l D [(cI, .int), (cJ, .long), (cZ, .boolean), (cB, .byte), (cO, .object "LuckLinks$World")] yX12_right cX12_right 16 ({ frames := 1, cells := 0, slots := 0, locals := 22 } : Room) [.ref (a 0), .int p1, .int p2, .int p3] [((a 0), .inr (12, (mF a))), ((a 1), .inl (cI, 4, .inl (fun _ => (0 : Int32))))] (fun (r : Int64) (u : Unit) => (r = (-1 : Int64) ∧ True)) (fun (_ : Unit) => []) := by
  intro sz
  refine body_of (y := yX12_right) (cc := cX12_right) (maxL := 16) (ret := (some .long)) (rm := ({ frames := 1, cells := 0, slots := 0, locals := 22 } : Room)) (wc := [((a 0), .inr (12, (mF a))), ((a 1), .inl (cI, 4, .inl (fun _ => (0 : Int32))))]) (tys := [(cI, .int), (cJ, .long), (cZ, .boolean), (cB, .byte), (cO, .object "LuckLinks$World")]) (D := D) (sz := sz) (own := RX12) (av := [.ref (a 0), .int p1, .int p2, .int p3]) (Qc := fun A => va_Ql (fun (r : Int64) (u : Unit) => (r = (-1 : Int64) ∧ True)) (fun u t => Aft D A ((fun (_ : Unit) => []) u) t) A) (by decide) rfl (Nat.le_of_ble_eq_true rfl) (fun p e s m below meth c A ls C hr hlk hin X hl => ?_)
  have hx := C.1
  have hb := C.2.1
  have hown := C.2.2.2.1
  have hts := C.2.2.2.2.1
  have hl : lv_has ls 16 [(0, .ref (a 0)), (1, .int p1), (2, .int p2), (3, .int p3)] := hl
  show W p l e _ s m _ below meth c s.heap [] 0 0 (MQ below (va_Ql (fun (r : Int64) (u : Unit) => (r = (-1 : Int64) ∧ True)) (fun u t => Aft D A ((fun (_ : Unit) => []) u) t) A) ([.ref (a 0), .int p1, .int p2, .int p3] : List Value).toArray s 0 0 A) (F0 m 0 ls [])
  have X : Wd D A s [((a 0), .inr (12, (mF a))), ((a 1), .inl (cI, 4, .inl (fun _ => (0 : Int32))))] s.heap [] := X
  obtain ⟨H, locs, eH, eL⟩ : ∃ H locs, H = s.heap ∧ locs = ([] : List Loc) := ⟨_, _, rfl, rfl⟩
  rw [← eH, ← eL] at X ⊢
  clear eH eL
  refine lv_iload_n hx hb dX12_right_0 rfl (lv_at hl 1 rfl) ?_
  refine x_cS (own := RX12) (wr := [((a 0), .inr (12, (mF a))), ((a 1), .inl (cI, 4, .inl (fun _ => (0 : Int32))))]) (As := [.int p1]) C X hl.1 (c_isWeekM l D cI cJ cZ cB cO p1) [] [0, 1] ⟨rfl, rfl, by decide, by decide, by decide⟩ k_14_11 k_14_12 k_1_5 k_14_13 (n := 1) (by decide +kernel) ⟨Nat.le_of_ble_eq_true rfl, Nat.le_of_ble_eq_true rfl⟩ rfl rfl (Nat.le_of_ble_eq_true rfl) dX12_right_1 ⟨Nat.le_of_ble_eq_true rfl, Nat.le_of_ble_eq_true rfl⟩ (fun r_2 u_1 H locs w_3 X => ?_)
  have X : Wd D A s [((a 0), .inr (12, (mF a))), ((a 1), .inl (cI, 4, .inl (fun _ => (0 : Int32))))] H locs := X
  refine W.widen (k := 0) (n := 0) (Nat.le_of_ble_eq_true rfl) (Nat.le_of_ble_eq_true rfl) ?_
  obtain ⟨rfl, fw_3⟩ | ⟨rfl, fw_3⟩ : (r_2 = (1 : Int32) ∧ (0 ≤ (p1).toInt ∧ (p1).toInt ≤ 39)) ∨ (r_2 = (0 : Int32) ∧ ((p1).toInt < 0 ∨ 39 < (p1).toInt)) := w_3
  · refine lv_if_eq (tgt := 25) hx hb dX12_right_4 (by decide) (fun c0 => absurd c0 (by decide)) (fun _ => ?_)
    refine lv_iload_n hx hb dX12_right_7 rfl (lv_at hl 2 rfl) ?_
    refine lv_iconst (v := (2 : Int32)) hx hb dX12_right_8 (by decide) ?_
    refine lv_iconst (v := (3 : Int32)) hx hb dX12_right_9 (by decide) ?_
    refine x_cS (own := RX12) (wr := [((a 0), .inr (12, (mF a))), ((a 1), .inl (cI, 4, .inl (fun _ => (0 : Int32))))]) (As := [.int p2, .int (2 : Int32), .int (3 : Int32)]) C X hl.1 (c_within l D cI cJ cZ cB cO p2 (2 : Int32) (3 : Int32)) [] [0, 1] ⟨rfl, rfl, by decide, by decide, by decide⟩ k_12_23 k_13_0 k_1_5 k_13_1 (n := 3) (by decide +kernel) ⟨Nat.le_of_ble_eq_true rfl, Nat.le_of_ble_eq_true rfl⟩ rfl rfl (Nat.le_of_ble_eq_true rfl) dX12_right_10 ⟨Nat.le_of_ble_eq_true rfl, Nat.le_of_ble_eq_true rfl⟩ (fun r_5 u_4 H locs w_6 X => ?_)
    have X : Wd D A s [((a 0), .inr (12, (mF a))), ((a 1), .inl (cI, 4, .inl (fun _ => (0 : Int32))))] H locs := X
    refine W.widen (k := 0) (n := 0) (Nat.le_of_ble_eq_true rfl) (Nat.le_of_ble_eq_true rfl) ?_
    obtain ⟨rfl, fw_6⟩ | ⟨rfl, fw_6⟩ : (r_5 = (1 : Int32) ∧ ((2 : Int) ≤ (p2).toInt ∧ (p2).toInt ≤ (3 : Int))) ∨ (r_5 = (0 : Int32) ∧ ((p2).toInt < (2 : Int) ∨ (3 : Int) < (p2).toInt)) := w_6
    · refine lv_if_eq (tgt := 25) hx hb dX12_right_13 (by decide) (fun c0 => absurd c0 (by decide)) (fun _ => ?_)
      refine lv_iload_n hx hb dX12_right_16 rfl (lv_at hl 3 rfl) ?_
      refine lv_iconst (v := (0 : Int32)) hx hb dX12_right_17 (by decide) ?_
      refine lv_iconst (v := (1 : Int32)) hx hb dX12_right_18 (by decide) ?_
      refine x_cS (own := RX12) (wr := [((a 0), .inr (12, (mF a))), ((a 1), .inl (cI, 4, .inl (fun _ => (0 : Int32))))]) (As := [.int p3, .int (0 : Int32), .int (1 : Int32)]) C X hl.1 (c_within l D cI cJ cZ cB cO p3 (0 : Int32) (1 : Int32)) [] [0, 1] ⟨rfl, rfl, by decide, by decide, by decide⟩ k_12_23 k_13_0 k_1_5 k_13_1 (n := 3) (by decide +kernel) ⟨Nat.le_of_ble_eq_true rfl, Nat.le_of_ble_eq_true rfl⟩ rfl rfl (Nat.le_of_ble_eq_true rfl) dX12_right_19 ⟨Nat.le_of_ble_eq_true rfl, Nat.le_of_ble_eq_true rfl⟩ (fun r_8 u_7 H locs w_9 X => ?_)
      have X : Wd D A s [((a 0), .inr (12, (mF a))), ((a 1), .inl (cI, 4, .inl (fun _ => (0 : Int32))))] H locs := X
      refine W.widen (k := 0) (n := 0) (Nat.le_of_ble_eq_true rfl) (Nat.le_of_ble_eq_true rfl) ?_
      obtain ⟨rfl, fw_9⟩ | ⟨rfl, fw_9⟩ : (r_8 = (1 : Int32) ∧ ((0 : Int) ≤ (p3).toInt ∧ (p3).toInt ≤ (1 : Int))) ∨ (r_8 = (0 : Int32) ∧ ((p3).toInt < (0 : Int) ∨ (1 : Int) < (p3).toInt)) := w_9
      · refine lv_if_ne (tgt := 29) hx hb dX12_right_22 (by decide) (fun _ => ?_) (fun c0 => absurd c0 (by decide))
        refine lv_lconst (v := (0 : Int64)) hx hb dX12_right_29 (by decide) ?_
        refine lv_lstore (lv' := [(4, .long (0 : Int64)), (0, .ref (a 0)), (1, .int p1), (2, .int p2), (3, .int p3)]) hx hb dX12_right_30 hl (by decide) rfl (fun ls hl => ?_)
        refine lv_lconst (v := (0 : Int64)) hx hb dX12_right_32 (by decide) ?_
        refine lv_lstore (lv' := [(6, .long (0 : Int64)), (4, .long (0 : Int64)), (0, .ref (a 0)), (1, .int p1), (2, .int p2), (3, .int p3)]) hx hb dX12_right_33 hl (by decide) rfl (fun ls hl => ?_)
        refine lv_lconst (v := (0 : Int64)) hx hb dX12_right_35 (by decide) ?_
        refine lv_lstore (lv' := [(8, .long (0 : Int64)), (6, .long (0 : Int64)), (4, .long (0 : Int64)), (0, .ref (a 0)), (1, .int p1), (2, .int p2), (3, .int p3)]) hx hb dX12_right_36 hl (by decide) rfl (fun ls hl => ?_)
        refine lv_lconst (v := (0 : Int64)) hx hb dX12_right_38 (by decide) ?_
        refine lv_lstore (lv' := [(10, .long (0 : Int64)), (8, .long (0 : Int64)), (6, .long (0 : Int64)), (4, .long (0 : Int64)), (0, .ref (a 0)), (1, .int p1), (2, .int p2), (3, .int p3)]) hx hb dX12_right_39 hl (by decide) rfl (fun ls hl => ?_)
        refine lv_lconst (v := (0 : Int64)) hx hb dX12_right_41 (by decide) ?_
        refine lv_lstore (lv' := [(12, .long (0 : Int64)), (10, .long (0 : Int64)), (8, .long (0 : Int64)), (6, .long (0 : Int64)), (4, .long (0 : Int64)), (0, .ref (a 0)), (1, .int p1), (2, .int p2), (3, .int p3)]) hx hb dX12_right_42 hl (by decide) rfl (fun ls hl => ?_)
        refine lv_iconst (v := (0 : Int32)) hx hb dX12_right_44 (by decide) ?_
        refine lv_istore (lv' := [(14, .int (0 : Int32)), (12, .long (0 : Int64)), (10, .long (0 : Int64)), (8, .long (0 : Int64)), (6, .long (0 : Int64)), (4, .long (0 : Int64)), (0, .ref (a 0)), (1, .int p1), (2, .int p2), (3, .int p3)]) hx hb dX12_right_45 hl (by decide) rfl (fun ls hl => ?_)
        refine lv_iload hx hb dX12_right_47 (lv_at hl 0 rfl) ?_
        refine lv_aload_n hx hb dX12_right_49 rfl (lv_at hl 6 rfl) ?_
        refine x_get (own := RX12) (T := TX12) C X 0 rfl rfl 0 (by decide) k_9_16 rfl rfl (v := .ref (a 1)) rfl dX12_right_50 ?_
        refine lv_iconst (v := (0 : Int32)) hx hb dX12_right_53 (by decide) ?_
        refine x_iald C X 1 0 rfl rfl (j := 0) rfl (vp_in_nI (n := 0) (by omega) (by omega)) (v := (0 : Int32)) (rfl) dX12_right_54 ?_
        refine lv_icmp_ge (tgt := 171) hx hb dX12_right_55 (by decide) (fun _ => ?_) (fun c0 => absurd (by decide) c0)
        refine lv_lload hx hb dX12_right_171 (lv_at hl 4 rfl) ?_
        refine lv_lconst (v := (0 : Int64)) hx hb dX12_right_173 (by decide) ?_
        refine W.lcmp hx hb dX12_right_174 ?_
        refine x_eqi (show lg_cmp (0 : Int64) (0 : Int64) = (0 : Int32) by decide) ?_
        refine lv_if_ne (tgt := 184) hx hb dX12_right_175 (by decide) (fun c0 => absurd (by decide) c0) (fun _ => ?_)
        refine lv_ldc2 (own := RX12) (v := (-1 : Int64)) hx hb hown (hts _ k_26_7) dX12_right_178 ?_
        refine lv_goto (tgt := 221) hx hb dX12_right_181 (by decide) ?_
        exact x_lret C X hr hlk (v := (-1 : Int64)) (()) [] (by decide) rfl (⟨rfl, trivial⟩) (Nat.le_of_ble_eq_true rfl) (Nat.le_of_ble_eq_true rfl) dX12_right_221
      · refine lv_if_ne (tgt := 29) hx hb dX12_right_22 (by decide) (fun c0 => absurd (by decide) c0) (fun _ => ?_)
        refine lv_ldc2 (own := RX12) (v := (-1 : Int64)) hx hb hown (hts _ k_26_7) dX12_right_25 ?_
        exact x_lret C X hr hlk (v := (-1 : Int64)) (()) [] (by decide) rfl (⟨rfl, trivial⟩) (Nat.le_of_ble_eq_true rfl) (Nat.le_of_ble_eq_true rfl) dX12_right_28
    · refine lv_if_eq (tgt := 25) hx hb dX12_right_13 (by decide) (fun _ => ?_) (fun c0 => absurd (by decide) c0)
      refine lv_ldc2 (own := RX12) (v := (-1 : Int64)) hx hb hown (hts _ k_26_7) dX12_right_25 ?_
      exact x_lret C X hr hlk (v := (-1 : Int64)) (()) [] (by decide) rfl (⟨rfl, trivial⟩) (Nat.le_of_ble_eq_true rfl) (Nat.le_of_ble_eq_true rfl) dX12_right_28
  · refine lv_if_eq (tgt := 25) hx hb dX12_right_4 (by decide) (fun _ => ?_) (fun c0 => absurd (by decide) c0)
    refine lv_ldc2 (own := RX12) (v := (-1 : Int64)) hx hb hown (hts _ k_26_7) dX12_right_25 ?_
    exact x_lret C X hr hlk (v := (-1 : Int64)) (()) [] (by decide) rfl (⟨rfl, trivial⟩) (Nat.le_of_ble_eq_true rfl) (Nat.le_of_ble_eq_true rfl) dX12_right_28
set_option maxHeartbeats 4000000 in
set_option maxRecDepth 100000 in
theorem cm_luck (l : Launch) (D : va_G) (cI cJ cZ cB : ClassId) (cO : ClassId) (a : Nat → Nat) (p1 : Int32) (p2 : Int32) (p3 : Int32) (p4 : Int32) :
    CL l D [(cI, .int), (cJ, .long), (cZ, .boolean), (cB, .byte), (cO, .object "LuckLinks$World")] yX12_luck cX12_luck 20 ({ frames := 2, cells := 0, slots := 0, locals := 41 } : Room) [.ref (a 0), .int p1, .int p2, .int p3, .int p4] [((a 0), .inr (12, (mF a))), ((a 1), .inl (cI, 4, .inl (fun _ => (0 : Int32))))] (fun (r : Int64) (u : Unit) => (r = (-1 : Int64) ∧ True)) (fun (_ : Unit) => []) := by
  intro sz
  refine body_of (y := yX12_luck) (cc := cX12_luck) (maxL := 20) (ret := (some .long)) (rm := ({ frames := 2, cells := 0, slots := 0, locals := 41 } : Room)) (wc := [((a 0), .inr (12, (mF a))), ((a 1), .inl (cI, 4, .inl (fun _ => (0 : Int32))))]) (tys := [(cI, .int), (cJ, .long), (cZ, .boolean), (cB, .byte), (cO, .object "LuckLinks$World")]) (D := D) (sz := sz) (own := RX12) (av := [.ref (a 0), .int p1, .int p2, .int p3, .int p4]) (Qc := fun A => va_Ql (fun (r : Int64) (u : Unit) => (r = (-1 : Int64) ∧ True)) (fun u t => Aft D A ((fun (_ : Unit) => []) u) t) A) (by decide) rfl (Nat.le_of_ble_eq_true rfl) (fun p e s m below meth c A ls C hr hlk hin X hl => ?_)
  have hx := C.1
  have hb := C.2.1
  have hown := C.2.2.2.1
  have hts := C.2.2.2.2.1
  have hl : lv_has ls 20 [(0, .ref (a 0)), (1, .int p1), (2, .int p2), (3, .int p3), (4, .int p4)] := hl
  show W p l e _ s m _ below meth c s.heap [] 0 0 (MQ below (va_Ql (fun (r : Int64) (u : Unit) => (r = (-1 : Int64) ∧ True)) (fun u t => Aft D A ((fun (_ : Unit) => []) u) t) A) ([.ref (a 0), .int p1, .int p2, .int p3, .int p4] : List Value).toArray s 0 0 A) (F0 m 0 ls [])
  have X : Wd D A s [((a 0), .inr (12, (mF a))), ((a 1), .inl (cI, 4, .inl (fun _ => (0 : Int32))))] s.heap [] := X
  obtain ⟨H, locs, eH, eL⟩ : ∃ H locs, H = s.heap ∧ locs = ([] : List Loc) := ⟨_, _, rfl, rfl⟩
  rw [← eH, ← eL] at X ⊢
  clear eH eL
  refine lv_iload_n hx hb dX12_luck_0 rfl (lv_at hl 1 rfl) ?_
  refine x_cS (own := RX12) (wr := [((a 0), .inr (12, (mF a))), ((a 1), .inl (cI, 4, .inl (fun _ => (0 : Int32))))]) (As := [.int p1]) C X hl.1 (c_isPartM l D cI cJ cZ cB cO p1) [] [0, 1] ⟨rfl, rfl, by decide, by decide, by decide⟩ k_45_5 k_45_6 k_1_5 k_45_7 (n := 1) (by decide +kernel) ⟨Nat.le_of_ble_eq_true rfl, Nat.le_of_ble_eq_true rfl⟩ rfl rfl (Nat.le_of_ble_eq_true rfl) dX12_luck_1 ⟨Nat.le_of_ble_eq_true rfl, Nat.le_of_ble_eq_true rfl⟩ (fun r_2 u_1 H locs w_3 X => ?_)
  have X : Wd D A s [((a 0), .inr (12, (mF a))), ((a 1), .inl (cI, 4, .inl (fun _ => (0 : Int32))))] H locs := X
  refine W.widen (k := 0) (n := 0) (Nat.le_of_ble_eq_true rfl) (Nat.le_of_ble_eq_true rfl) ?_
  obtain ⟨rfl, fw_3⟩ | ⟨rfl, fw_3⟩ : (r_2 = (1 : Int32) ∧ (-1 ≤ (p1).toInt ∧ (p1).toInt ≤ 3)) ∨ (r_2 = (0 : Int32) ∧ ((p1).toInt < -1 ∨ 3 < (p1).toInt)) := w_3
  · refine lv_if_eq (tgt := 25) hx hb dX12_luck_4 (by decide) (fun c0 => absurd c0 (by decide)) (fun _ => ?_)
    refine lv_iload_n hx hb dX12_luck_7 rfl (lv_at hl 2 rfl) ?_
    refine lv_iload_n hx hb dX12_luck_8 rfl (lv_at hl 3 rfl) ?_
    refine x_cS (own := RX12) (wr := [((a 0), .inr (12, (mF a))), ((a 1), .inl (cI, 4, .inl (fun _ => (0 : Int32))))]) (As := [.int p2, .int p3]) C X hl.1 (c_areWeeksM l D cI cJ cZ cB cO p2 p3) [] [0, 1] ⟨rfl, rfl, by decide, by decide, by decide⟩ k_42_1 k_42_2 k_1_5 k_42_3 (n := 2) (by decide +kernel) ⟨Nat.le_of_ble_eq_true rfl, Nat.le_of_ble_eq_true rfl⟩ rfl rfl (Nat.le_of_ble_eq_true rfl) dX12_luck_9 ⟨Nat.le_of_ble_eq_true rfl, Nat.le_of_ble_eq_true rfl⟩ (fun r_5 u_4 H locs w_6 X => ?_)
    have X : Wd D A s [((a 0), .inr (12, (mF a))), ((a 1), .inl (cI, 4, .inl (fun _ => (0 : Int32))))] H locs := X
    refine W.widen (k := 0) (n := 0) (Nat.le_of_ble_eq_true rfl) (Nat.le_of_ble_eq_true rfl) ?_
    obtain ⟨rfl, fw_6⟩ | ⟨rfl, fw_6⟩ : (r_5 = (1 : Int32) ∧ (0 ≤ (p2).toInt ∧ (p2).toInt ≤ (p3).toInt ∧ (p3).toInt ≤ 39)) ∨ (r_5 = (0 : Int32) ∧ ((p2).toInt < 0 ∨ (p3).toInt < (p2).toInt ∨ 39 < (p3).toInt)) := w_6
    · refine lv_if_eq (tgt := 25) hx hb dX12_luck_12 (by decide) (fun c0 => absurd c0 (by decide)) (fun _ => ?_)
      refine lv_iload hx hb dX12_luck_15 (lv_at hl 4 rfl) ?_
      refine lv_iconst (v := (0 : Int32)) hx hb dX12_luck_17 (by decide) ?_
      refine lv_iconst (v := (1 : Int32)) hx hb dX12_luck_18 (by decide) ?_
      refine x_cS (own := RX12) (wr := [((a 0), .inr (12, (mF a))), ((a 1), .inl (cI, 4, .inl (fun _ => (0 : Int32))))]) (As := [.int p4, .int (0 : Int32), .int (1 : Int32)]) C X hl.1 (c_within l D cI cJ cZ cB cO p4 (0 : Int32) (1 : Int32)) [] [0, 1] ⟨rfl, rfl, by decide, by decide, by decide⟩ k_12_23 k_13_0 k_1_5 k_13_1 (n := 3) (by decide +kernel) ⟨Nat.le_of_ble_eq_true rfl, Nat.le_of_ble_eq_true rfl⟩ rfl rfl (Nat.le_of_ble_eq_true rfl) dX12_luck_19 ⟨Nat.le_of_ble_eq_true rfl, Nat.le_of_ble_eq_true rfl⟩ (fun r_8 u_7 H locs w_9 X => ?_)
      have X : Wd D A s [((a 0), .inr (12, (mF a))), ((a 1), .inl (cI, 4, .inl (fun _ => (0 : Int32))))] H locs := X
      refine W.widen (k := 0) (n := 0) (Nat.le_of_ble_eq_true rfl) (Nat.le_of_ble_eq_true rfl) ?_
      obtain ⟨rfl, fw_9⟩ | ⟨rfl, fw_9⟩ : (r_8 = (1 : Int32) ∧ ((0 : Int) ≤ (p4).toInt ∧ (p4).toInt ≤ (1 : Int))) ∨ (r_8 = (0 : Int32) ∧ ((p4).toInt < (0 : Int) ∨ (1 : Int) < (p4).toInt)) := w_9
      · refine lv_if_ne (tgt := 29) hx hb dX12_luck_22 (by decide) (fun _ => ?_) (fun c0 => absurd c0 (by decide))
        obtain ⟨j2, hj2, hqj2⟩ := i_ex (x := p2) 40 (by omega) (by omega)
        have ej2 : p2.toInt = (j2 : Int) := by rw [hqj2]; exact nI_toInt (by omega)
        rw [hqj2] at hl
        have hl : lv_has ls 20 [(0, .ref (a 0)), (1, .int p1), (2, .int (nI (j2))), (3, .int p3), (4, .int p4)] := hl
        obtain ⟨j3, hj3, hqj3⟩ := i_ex (x := p3) 40 (by omega) (by omega)
        have ej3 : p3.toInt = (j3 : Int) := by rw [hqj3]; exact nI_toInt (by omega)
        rw [hqj3] at hl
        have hl : lv_has ls 20 [(0, .ref (a 0)), (1, .int p1), (2, .int (nI (j2))), (3, .int (nI (j3))), (4, .int p4)] := hl
        refine lv_lconst (v := (0 : Int64)) hx hb dX12_luck_29 (by decide) ?_
        refine lv_lstore (lv' := [(5, .long (0 : Int64)), (0, .ref (a 0)), (1, .int p1), (2, .int (nI (j2))), (3, .int (nI (j3))), (4, .int p4)]) hx hb dX12_luck_30 hl (by decide) rfl (fun ls hl => ?_)
        refine lv_lconst (v := (0 : Int64)) hx hb dX12_luck_32 (by decide) ?_
        refine lv_lstore (lv' := [(7, .long (0 : Int64)), (5, .long (0 : Int64)), (0, .ref (a 0)), (1, .int p1), (2, .int (nI (j2))), (3, .int (nI (j3))), (4, .int p4)]) hx hb dX12_luck_33 hl (by decide) rfl (fun ls hl => ?_)
        refine lv_lconst (v := (0 : Int64)) hx hb dX12_luck_35 (by decide) ?_
        refine lv_lstore (lv' := [(9, .long (0 : Int64)), (7, .long (0 : Int64)), (5, .long (0 : Int64)), (0, .ref (a 0)), (1, .int p1), (2, .int (nI (j2))), (3, .int (nI (j3))), (4, .int p4)]) hx hb dX12_luck_36 hl (by decide) rfl (fun ls hl => ?_)
        refine lv_lconst (v := (0 : Int64)) hx hb dX12_luck_38 (by decide) ?_
        refine lv_lstore (lv' := [(11, .long (0 : Int64)), (9, .long (0 : Int64)), (7, .long (0 : Int64)), (5, .long (0 : Int64)), (0, .ref (a 0)), (1, .int p1), (2, .int (nI (j2))), (3, .int (nI (j3))), (4, .int p4)]) hx hb dX12_luck_39 hl (by decide) rfl (fun ls hl => ?_)
        refine lv_iload_n hx hb dX12_luck_41 rfl (lv_at hl 6 rfl) ?_
        refine lv_istore (lv' := [(13, .int (nI (j2))), (11, .long (0 : Int64)), (9, .long (0 : Int64)), (7, .long (0 : Int64)), (5, .long (0 : Int64)), (0, .ref (a 0)), (1, .int p1), (2, .int (nI (j2))), (3, .int (nI (j3))), (4, .int p4)]) hx hb dX12_luck_42 hl (by decide) rfl (fun ls hl => ?_)
        have L44 : ∀ (n : Nat) (v : Nat) (H : Heap) (locs : List Loc) (ls : Array Slot), (g1 : v ≤ j3 + 1) → j3 + 1 < v + n → Wd D A s [((a 0), .inr (12, (mF a))), ((a 1), .inl (cI, 4, .inl (fun _ => (0 : Int32))))] H locs → lv_has ls 20 [(13, .int (nI (v))), (11, .long (0 : Int64)), (9, .long (0 : Int64)), (7, .long (0 : Int64)), (5, .long (0 : Int64)), (0, .ref (a 0)), (1, .int p1), (2, .int (nI (j2))), (3, .int (nI (j3))), (4, .int p4)] → W p l e ({ frames := 2, cells := 0, slots := 0, locals := 41 } : Room) s m ([.ref (a 0), .int p1, .int p2, .int p3, .int p4] : List Value).toArray below meth c H locs 0 0 (MQ below (va_Ql (fun (r : Int64) (u : Unit) => (r = (-1 : Int64) ∧ True)) (fun u t => Aft D A ((fun (_ : Unit) => []) u) t) A) ([.ref (a 0), .int p1, .int p2, .int p3, .int p4] : List Value).toArray s 0 0 A) (F0 m 44 ls []) := by
          intro n
          induction n with
          | zero => intro v H locs ls g1 hn; exact absurd hn (by omega)
          | succ n ih =>
            intro v H locs ls g1 hn X hl
            have ih44 := ih
            refine lv_iload hx hb dX12_luck_44 (lv_at hl 0 rfl) ?_
            refine lv_iload_n hx hb dX12_luck_46 rfl (lv_at hl 8 rfl) ?_
            refine lv_icmp_gt (tgt := 286) hx hb dX12_luck_47 (by decide) (fun c_10 => ?_) (fun c_10 => ?_)
            · have fc_10 : ((j3 : Nat) : Int) < ((v : Nat) : Int) := (by have h9 := i_lt c_10; simp only [nI_toInt (n := j3) (by omega), nI_toInt (n := v) (by omega)] at h9; exact h9)
              refine lv_lload hx hb dX12_luck_286 (lv_at hl 3 rfl) ?_
              refine lv_lconst (v := (0 : Int64)) hx hb dX12_luck_288 (by decide) ?_
              refine W.lcmp hx hb dX12_luck_289 ?_
              refine x_eqi (show lg_cmp (0 : Int64) (0 : Int64) = (0 : Int32) by decide) ?_
              refine lv_if_eq (tgt := 300) hx hb dX12_luck_290 (by decide) (fun _ => ?_) (fun c0 => absurd (by decide) c0)
              refine lv_ldc2 (own := RX12) (v := (-1 : Int64)) hx hb hown (hts _ k_26_7) dX12_luck_300 ?_
              refine lv_goto (tgt := 321) hx hb dX12_luck_303 (by decide) ?_
              exact x_lret C X hr hlk (v := (-1 : Int64)) (()) [] (by decide) rfl (⟨rfl, trivial⟩) (Nat.le_of_ble_eq_true rfl) (Nat.le_of_ble_eq_true rfl) dX12_luck_321
            · have fc_10 : ((v : Nat) : Int) ≤ ((j3 : Nat) : Int) := (by have h9 := i_nlt c_10; simp only [nI_toInt (n := j3) (by omega), nI_toInt (n := v) (by omega)] at h9; exact h9)
              refine lv_iconst (v := (0 : Int32)) hx hb dX12_luck_50 (by decide) ?_
              refine lv_istore (lv' := [(14, .int (0 : Int32)), (13, .int (nI (v))), (11, .long (0 : Int64)), (9, .long (0 : Int64)), (7, .long (0 : Int64)), (5, .long (0 : Int64)), (0, .ref (a 0)), (1, .int p1), (2, .int (nI (j2))), (3, .int (nI (j3))), (4, .int p4)]) hx hb dX12_luck_51 hl (by decide) rfl (fun ls hl => ?_)
              refine lv_iload hx hb dX12_luck_53 (lv_at hl 0 rfl) ?_
              refine lv_aload_n hx hb dX12_luck_55 rfl (lv_at hl 6 rfl) ?_
              refine x_get (own := RX12) (T := TX12) C X 0 rfl rfl 0 (by decide) k_9_16 rfl rfl (v := .ref (a 1)) rfl dX12_luck_56 ?_
              refine lv_iconst (v := (0 : Int32)) hx hb dX12_luck_59 (by decide) ?_
              refine x_iald C X 1 0 rfl rfl (j := 0) rfl (vp_in_nI (n := 0) (by omega) (by omega)) (v := (0 : Int32)) (rfl) dX12_luck_60 ?_
              refine lv_icmp_ge (tgt := 280) hx hb dX12_luck_61 (by decide) (fun _ => ?_) (fun c0 => absurd (by decide) c0)
              refine lv_iinc (v := (nI (v + 1))) (lv' := [(13, .int (nI (v + 1))), (14, .int (0 : Int32)), (11, .long (0 : Int64)), (9, .long (0 : Int64)), (7, .long (0 : Int64)), (5, .long (0 : Int64)), (0, .ref (a 0)), (1, .int p1), (2, .int (nI (j2))), (3, .int (nI (j3))), (4, .int p4)]) hx hb dX12_luck_280 hl (k := 1) rfl (nI_add _ 1) (by decide) rfl (fun ls hl => ?_)
              refine lv_goto (tgt := 44) hx hb dX12_luck_283 (by decide) ?_
              exact ih44  (v + 1) H locs ls (by omega) (by omega) (x_sub X [0, 1] (by decide) rfl) (lv_sub hl [0, 2, 3, 4, 5, 6, 7, 8, 9, 10] rfl)
        exact L44 (j3 + 1 + 1) (j2) H locs ls (by omega) (by omega) (x_sub X [0, 1] (by decide) rfl) (lv_sub hl [0, 1, 2, 3, 4, 5, 6, 7, 8, 9] rfl)
      · refine lv_if_ne (tgt := 29) hx hb dX12_luck_22 (by decide) (fun c0 => absurd (by decide) c0) (fun _ => ?_)
        refine lv_ldc2 (own := RX12) (v := (-1 : Int64)) hx hb hown (hts _ k_26_7) dX12_luck_25 ?_
        exact x_lret C X hr hlk (v := (-1 : Int64)) (()) [] (by decide) rfl (⟨rfl, trivial⟩) (Nat.le_of_ble_eq_true rfl) (Nat.le_of_ble_eq_true rfl) dX12_luck_28
    · refine lv_if_eq (tgt := 25) hx hb dX12_luck_12 (by decide) (fun _ => ?_) (fun c0 => absurd (by decide) c0)
      refine lv_ldc2 (own := RX12) (v := (-1 : Int64)) hx hb hown (hts _ k_26_7) dX12_luck_25 ?_
      exact x_lret C X hr hlk (v := (-1 : Int64)) (()) [] (by decide) rfl (⟨rfl, trivial⟩) (Nat.le_of_ble_eq_true rfl) (Nat.le_of_ble_eq_true rfl) dX12_luck_28
  · refine lv_if_eq (tgt := 25) hx hb dX12_luck_4 (by decide) (fun _ => ?_) (fun c0 => absurd (by decide) c0)
    refine lv_ldc2 (own := RX12) (v := (-1 : Int64)) hx hb hown (hts _ k_26_7) dX12_luck_25 ?_
    exact x_lret C X hr hlk (v := (-1 : Int64)) (()) [] (by decide) rfl (⟨rfl, trivial⟩) (Nat.le_of_ble_eq_true rfl) (Nat.le_of_ble_eq_true rfl) dX12_luck_28
set_option maxHeartbeats 4000000 in
set_option maxRecDepth 100000 in
theorem cm_leadsIn (l : Launch) (D : va_G) (cI cJ cZ cB : ClassId) (cO : ClassId) (a : Nat → Nat) (wk : Int32) (dy : Int32) (kk : Int32) :
    CV l D [(cI, .int), (cJ, .long), (cZ, .boolean), (cB, .byte), (cO, .object "LuckLinks$World")] yX12_leadsIn cX12_leadsIn 11 ({ frames := 0, cells := 0, slots := 0, locals := 0 } : Room) [.ref (a 0), .int wk, .int dy, .int kk] [((a 0), .inr (12, (mF a))), ((a 1), .inl (cI, 4, .inl (fun _ => (0 : Int32))))] (fun (u : Unit) => (True)) (fun (_ : Unit) => [((a 0), .inr (12, (mF a))), ((a 1), .inl (cI, 4, .inl (fun _ => (0 : Int32))))]) := by
  intro sz
  refine body_of (y := yX12_leadsIn) (cc := cX12_leadsIn) (maxL := 11) (ret := none) (rm := ({ frames := 0, cells := 0, slots := 0, locals := 0 } : Room)) (wc := [((a 0), .inr (12, (mF a))), ((a 1), .inl (cI, 4, .inl (fun _ => (0 : Int32))))]) (tys := [(cI, .int), (cJ, .long), (cZ, .boolean), (cB, .byte), (cO, .object "LuckLinks$World")]) (D := D) (sz := sz) (own := RX12) (av := [.ref (a 0), .int wk, .int dy, .int kk]) (Qc := fun A => va_Qv (fun (u : Unit) => (True)) (fun u t => Aft D A ((fun (_ : Unit) => [((a 0), .inr (12, (mF a))), ((a 1), .inl (cI, 4, .inl (fun _ => (0 : Int32))))]) u) t) A) (by decide) rfl (Nat.le_of_ble_eq_true rfl) (fun p e s m below meth c A ls C hr hlk hin X hl => ?_)
  have hx := C.1
  have hb := C.2.1
  have hown := C.2.2.2.1
  have hts := C.2.2.2.2.1
  have hl : lv_has ls 11 [(0, .ref (a 0)), (1, .int wk), (2, .int dy), (3, .int kk)] := hl
  show W p l e _ s m _ below meth c s.heap [] 0 0 (MQ below (va_Qv (fun (u : Unit) => (True)) (fun u t => Aft D A ((fun (_ : Unit) => [((a 0), .inr (12, (mF a))), ((a 1), .inl (cI, 4, .inl (fun _ => (0 : Int32))))]) u) t) A) ([.ref (a 0), .int wk, .int dy, .int kk] : List Value).toArray s 0 0 A) (F0 m 0 ls [])
  have X : Wd D A s [((a 0), .inr (12, (mF a))), ((a 1), .inl (cI, 4, .inl (fun _ => (0 : Int32))))] s.heap [] := X
  obtain ⟨H, locs, eH, eL⟩ : ∃ H locs, H = s.heap ∧ locs = ([] : List Loc) := ⟨_, _, rfl, rfl⟩
  rw [← eH, ← eL] at X ⊢
  clear eH eL
  refine lv_iconst (v := (0 : Int32)) hx hb dX12_leadsIn_0 (by decide) ?_
  refine lv_istore (lv' := [(4, .int (0 : Int32)), (0, .ref (a 0)), (1, .int wk), (2, .int dy), (3, .int kk)]) hx hb dX12_leadsIn_1 hl (by decide) rfl (fun ls hl => ?_)
  refine lv_iconst (v := (0 : Int32)) hx hb dX12_leadsIn_3 (by decide) ?_
  refine lv_istore (lv' := [(5, .int (0 : Int32)), (4, .int (0 : Int32)), (0, .ref (a 0)), (1, .int wk), (2, .int dy), (3, .int kk)]) hx hb dX12_leadsIn_4 hl (by decide) rfl (fun ls hl => ?_)
  refine lv_iconst (v := (0 : Int32)) hx hb dX12_leadsIn_6 (by decide) ?_
  refine lv_istore (lv' := [(6, .int (0 : Int32)), (5, .int (0 : Int32)), (4, .int (0 : Int32)), (0, .ref (a 0)), (1, .int wk), (2, .int dy), (3, .int kk)]) hx hb dX12_leadsIn_7 hl (by decide) rfl (fun ls hl => ?_)
  refine lv_iconst (v := (0 : Int32)) hx hb dX12_leadsIn_9 (by decide) ?_
  refine lv_istore (lv' := [(7, .int (0 : Int32)), (6, .int (0 : Int32)), (5, .int (0 : Int32)), (4, .int (0 : Int32)), (0, .ref (a 0)), (1, .int wk), (2, .int dy), (3, .int kk)]) hx hb dX12_leadsIn_10 hl (by decide) rfl (fun ls hl => ?_)
  refine lv_iload hx hb dX12_leadsIn_12 (lv_at hl 0 rfl) ?_
  refine lv_aload_n hx hb dX12_leadsIn_14 rfl (lv_at hl 4 rfl) ?_
  refine x_get (own := RX12) (T := TX12) C X 0 rfl rfl 0 (by decide) k_9_16 rfl rfl (v := .ref (a 1)) rfl dX12_leadsIn_15 ?_
  refine lv_iconst (v := (0 : Int32)) hx hb dX12_leadsIn_18 (by decide) ?_
  refine x_iald C X 1 0 rfl rfl (j := 0) rfl (vp_in_nI (n := 0) (by omega) (by omega)) (v := (0 : Int32)) (rfl) dX12_leadsIn_19 ?_
  refine lv_icmp_ge (tgt := 103) hx hb dX12_leadsIn_20 (by decide) (fun _ => ?_) (fun c0 => absurd (by decide) c0)
  refine lv_iload hx hb dX12_leadsIn_103 (lv_at hl 3 rfl) ?_
  refine lv_iconst (v := (2 : Int32)) hx hb dX12_leadsIn_105 (by decide) ?_
  refine lv_icmp_ge (tgt := 110) hx hb dX12_leadsIn_106 (by decide) (fun c0 => absurd c0 (by decide)) (fun _ => ?_)
  exact x_vret C X hr hlk (()) [0, 1] (by decide) rfl (trivial) (Nat.le_of_ble_eq_true rfl) (Nat.le_of_ble_eq_true rfl) dX12_leadsIn_109
set_option maxHeartbeats 4000000 in
set_option maxRecDepth 100000 in
theorem cm_back (l : Launch) (D : va_G) (cI cJ cZ cB : ClassId) (cO : ClassId) (a : Nat → Nat) (p1 : Int32) (p2 : Int32) (p3 : Int32) (p4 : Int32) (p5 : Int32) :
    CI l D [(cI, .int), (cJ, .long), (cZ, .boolean), (cB, .byte), (cO, .object "LuckLinks$World")] yX12_back cX12_back 7 (some .int) ({ frames := 2, cells := 0, slots := 0, locals := 41 } : Room) [.ref (a 0), .int p1, .int p2, .int p3, .int p4, .int p5] [((a 0), .inr (12, (mF a))), ((a 1), .inl (cI, 4, .inl (fun _ => (0 : Int32))))] (fun (r : Int32) (u : Unit) => (r = (0 : Int32) ∧ (0 ≤ p1.toInt ∧ p1.toInt ≤ 2 ∧ 1 ≤ p2.toInt ∧ p2.toInt ≤ 20 ∧ 0 ≤ p3.toInt ∧ p3.toInt ≤ p4.toInt ∧ p4.toInt ≤ 39 ∧ 0 ≤ p5.toInt ∧ p5.toInt ≤ 2)) ∨ (r = (-1000000000 : Int32) ∧ (p1.toInt < 0 ∨ 2 < p1.toInt ∨ p2.toInt < 1 ∨ 20 < p2.toInt ∨ p3.toInt < 0 ∨ p4.toInt < p3.toInt ∨ 39 < p4.toInt ∨ p5.toInt < 0 ∨ 2 < p5.toInt))) (fun (_ : Unit) => []) := by
  intro sz
  refine body_of (y := yX12_back) (cc := cX12_back) (maxL := 7) (ret := (some .int)) (rm := ({ frames := 2, cells := 0, slots := 0, locals := 41 } : Room)) (wc := [((a 0), .inr (12, (mF a))), ((a 1), .inl (cI, 4, .inl (fun _ => (0 : Int32))))]) (tys := [(cI, .int), (cJ, .long), (cZ, .boolean), (cB, .byte), (cO, .object "LuckLinks$World")]) (D := D) (sz := sz) (own := RX12) (av := [.ref (a 0), .int p1, .int p2, .int p3, .int p4, .int p5]) (Qc := fun A => va_Qi (fun (r : Int32) (u : Unit) => (r = (0 : Int32) ∧ (0 ≤ p1.toInt ∧ p1.toInt ≤ 2 ∧ 1 ≤ p2.toInt ∧ p2.toInt ≤ 20 ∧ 0 ≤ p3.toInt ∧ p3.toInt ≤ p4.toInt ∧ p4.toInt ≤ 39 ∧ 0 ≤ p5.toInt ∧ p5.toInt ≤ 2)) ∨ (r = (-1000000000 : Int32) ∧ (p1.toInt < 0 ∨ 2 < p1.toInt ∨ p2.toInt < 1 ∨ 20 < p2.toInt ∨ p3.toInt < 0 ∨ p4.toInt < p3.toInt ∨ 39 < p4.toInt ∨ p5.toInt < 0 ∨ 2 < p5.toInt))) (fun u t => Aft D A ((fun (_ : Unit) => []) u) t) A) (by decide) rfl (Nat.le_of_ble_eq_true rfl) (fun p e s m below meth c A ls C hr hlk hin X hl => ?_)
  have hx := C.1
  have hb := C.2.1
  have hown := C.2.2.2.1
  have hts := C.2.2.2.2.1
  have hl : lv_has ls 7 [(0, .ref (a 0)), (1, .int p1), (2, .int p2), (3, .int p3), (4, .int p4), (5, .int p5)] := hl
  show W p l e _ s m _ below meth c s.heap [] 0 0 (MQ below (va_Qi (fun (r : Int32) (u : Unit) => (r = (0 : Int32) ∧ (0 ≤ p1.toInt ∧ p1.toInt ≤ 2 ∧ 1 ≤ p2.toInt ∧ p2.toInt ≤ 20 ∧ 0 ≤ p3.toInt ∧ p3.toInt ≤ p4.toInt ∧ p4.toInt ≤ 39 ∧ 0 ≤ p5.toInt ∧ p5.toInt ≤ 2)) ∨ (r = (-1000000000 : Int32) ∧ (p1.toInt < 0 ∨ 2 < p1.toInt ∨ p2.toInt < 1 ∨ 20 < p2.toInt ∨ p3.toInt < 0 ∨ p4.toInt < p3.toInt ∨ 39 < p4.toInt ∨ p5.toInt < 0 ∨ 2 < p5.toInt))) (fun u t => Aft D A ((fun (_ : Unit) => []) u) t) A) ([.ref (a 0), .int p1, .int p2, .int p3, .int p4, .int p5] : List Value).toArray s 0 0 A) (F0 m 0 ls [])
  have X : Wd D A s [((a 0), .inr (12, (mF a))), ((a 1), .inl (cI, 4, .inl (fun _ => (0 : Int32))))] s.heap [] := X
  obtain ⟨H, locs, eH, eL⟩ : ∃ H locs, H = s.heap ∧ locs = ([] : List Loc) := ⟨_, _, rfl, rfl⟩
  rw [← eH, ← eL] at X ⊢
  clear eH eL
  refine lv_iload_n hx hb dX12_back_0 rfl (lv_at hl 1 rfl) ?_
  refine lv_iconst (v := (0 : Int32)) hx hb dX12_back_1 (by decide) ?_
  refine lv_iconst (v := (2 : Int32)) hx hb dX12_back_2 (by decide) ?_
  refine x_cS (own := RX12) (wr := [((a 0), .inr (12, (mF a))), ((a 1), .inl (cI, 4, .inl (fun _ => (0 : Int32))))]) (As := [.int p1, .int (0 : Int32), .int (2 : Int32)]) C X hl.1 (c_within l D cI cJ cZ cB cO p1 (0 : Int32) (2 : Int32)) [] [0, 1] ⟨rfl, rfl, by decide, by decide, by decide⟩ k_12_23 k_13_0 k_1_5 k_13_1 (n := 3) (by decide +kernel) ⟨Nat.le_of_ble_eq_true rfl, Nat.le_of_ble_eq_true rfl⟩ rfl rfl (Nat.le_of_ble_eq_true rfl) dX12_back_3 ⟨Nat.le_of_ble_eq_true rfl, Nat.le_of_ble_eq_true rfl⟩ (fun r_2 u_1 H locs w_3 X => ?_)
  have X : Wd D A s [((a 0), .inr (12, (mF a))), ((a 1), .inl (cI, 4, .inl (fun _ => (0 : Int32))))] H locs := X
  refine W.widen (k := 0) (n := 0) (Nat.le_of_ble_eq_true rfl) (Nat.le_of_ble_eq_true rfl) ?_
  obtain ⟨rfl, fw_3⟩ | ⟨rfl, fw_3⟩ : (r_2 = (1 : Int32) ∧ ((0 : Int) ≤ (p1).toInt ∧ (p1).toInt ≤ (2 : Int))) ∨ (r_2 = (0 : Int32) ∧ ((p1).toInt < (0 : Int) ∨ (2 : Int) < (p1).toInt)) := w_3
  · refine lv_if_eq (tgt := 38) hx hb dX12_back_6 (by decide) (fun c0 => absurd c0 (by decide)) (fun _ => ?_)
    refine lv_iload_n hx hb dX12_back_9 rfl (lv_at hl 2 rfl) ?_
    refine lv_iconst (v := (1 : Int32)) hx hb dX12_back_10 (by decide) ?_
    refine lv_bipush (v := (20 : Int32)) hx hb dX12_back_11 (by decide) ?_
    refine x_cS (own := RX12) (wr := [((a 0), .inr (12, (mF a))), ((a 1), .inl (cI, 4, .inl (fun _ => (0 : Int32))))]) (As := [.int p2, .int (1 : Int32), .int (20 : Int32)]) C X hl.1 (c_within l D cI cJ cZ cB cO p2 (1 : Int32) (20 : Int32)) [] [0, 1] ⟨rfl, rfl, by decide, by decide, by decide⟩ k_12_23 k_13_0 k_1_5 k_13_1 (n := 3) (by decide +kernel) ⟨Nat.le_of_ble_eq_true rfl, Nat.le_of_ble_eq_true rfl⟩ rfl rfl (Nat.le_of_ble_eq_true rfl) dX12_back_13 ⟨Nat.le_of_ble_eq_true rfl, Nat.le_of_ble_eq_true rfl⟩ (fun r_5 u_4 H locs w_6 X => ?_)
    have X : Wd D A s [((a 0), .inr (12, (mF a))), ((a 1), .inl (cI, 4, .inl (fun _ => (0 : Int32))))] H locs := X
    refine W.widen (k := 0) (n := 0) (Nat.le_of_ble_eq_true rfl) (Nat.le_of_ble_eq_true rfl) ?_
    obtain ⟨rfl, fw_6⟩ | ⟨rfl, fw_6⟩ : (r_5 = (1 : Int32) ∧ ((1 : Int) ≤ (p2).toInt ∧ (p2).toInt ≤ (20 : Int))) ∨ (r_5 = (0 : Int32) ∧ ((p2).toInt < (1 : Int) ∨ (20 : Int) < (p2).toInt)) := w_6
    · refine lv_if_eq (tgt := 38) hx hb dX12_back_16 (by decide) (fun c0 => absurd c0 (by decide)) (fun _ => ?_)
      refine lv_iload_n hx hb dX12_back_19 rfl (lv_at hl 3 rfl) ?_
      refine lv_iload hx hb dX12_back_20 (lv_at hl 4 rfl) ?_
      refine x_cS (own := RX12) (wr := [((a 0), .inr (12, (mF a))), ((a 1), .inl (cI, 4, .inl (fun _ => (0 : Int32))))]) (As := [.int p3, .int p4]) C X hl.1 (c_areWeeksM l D cI cJ cZ cB cO p3 p4) [] [0, 1] ⟨rfl, rfl, by decide, by decide, by decide⟩ k_42_1 k_42_2 k_1_5 k_42_3 (n := 2) (by decide +kernel) ⟨Nat.le_of_ble_eq_true rfl, Nat.le_of_ble_eq_true rfl⟩ rfl rfl (Nat.le_of_ble_eq_true rfl) dX12_back_22 ⟨Nat.le_of_ble_eq_true rfl, Nat.le_of_ble_eq_true rfl⟩ (fun r_8 u_7 H locs w_9 X => ?_)
      have X : Wd D A s [((a 0), .inr (12, (mF a))), ((a 1), .inl (cI, 4, .inl (fun _ => (0 : Int32))))] H locs := X
      refine W.widen (k := 0) (n := 0) (Nat.le_of_ble_eq_true rfl) (Nat.le_of_ble_eq_true rfl) ?_
      obtain ⟨rfl, fw_9⟩ | ⟨rfl, fw_9⟩ : (r_8 = (1 : Int32) ∧ (0 ≤ (p3).toInt ∧ (p3).toInt ≤ (p4).toInt ∧ (p4).toInt ≤ 39)) ∨ (r_8 = (0 : Int32) ∧ ((p3).toInt < 0 ∨ (p4).toInt < (p3).toInt ∨ 39 < (p4).toInt)) := w_9
      · refine lv_if_eq (tgt := 38) hx hb dX12_back_25 (by decide) (fun c0 => absurd c0 (by decide)) (fun _ => ?_)
        refine lv_iload hx hb dX12_back_28 (lv_at hl 5 rfl) ?_
        refine lv_iconst (v := (0 : Int32)) hx hb dX12_back_30 (by decide) ?_
        refine lv_iconst (v := (2 : Int32)) hx hb dX12_back_31 (by decide) ?_
        refine x_cS (own := RX12) (wr := [((a 0), .inr (12, (mF a))), ((a 1), .inl (cI, 4, .inl (fun _ => (0 : Int32))))]) (As := [.int p5, .int (0 : Int32), .int (2 : Int32)]) C X hl.1 (c_within l D cI cJ cZ cB cO p5 (0 : Int32) (2 : Int32)) [] [0, 1] ⟨rfl, rfl, by decide, by decide, by decide⟩ k_12_23 k_13_0 k_1_5 k_13_1 (n := 3) (by decide +kernel) ⟨Nat.le_of_ble_eq_true rfl, Nat.le_of_ble_eq_true rfl⟩ rfl rfl (Nat.le_of_ble_eq_true rfl) dX12_back_32 ⟨Nat.le_of_ble_eq_true rfl, Nat.le_of_ble_eq_true rfl⟩ (fun r_11 u_10 H locs w_12 X => ?_)
        have X : Wd D A s [((a 0), .inr (12, (mF a))), ((a 1), .inl (cI, 4, .inl (fun _ => (0 : Int32))))] H locs := X
        refine W.widen (k := 0) (n := 0) (Nat.le_of_ble_eq_true rfl) (Nat.le_of_ble_eq_true rfl) ?_
        obtain ⟨rfl, fw_12⟩ | ⟨rfl, fw_12⟩ : (r_11 = (1 : Int32) ∧ ((0 : Int) ≤ (p5).toInt ∧ (p5).toInt ≤ (2 : Int))) ∨ (r_11 = (0 : Int32) ∧ ((p5).toInt < (0 : Int) ∨ (2 : Int) < (p5).toInt)) := w_12
        · refine lv_if_ne (tgt := 42) hx hb dX12_back_35 (by decide) (fun _ => ?_) (fun c0 => absurd c0 (by decide))
          obtain ⟨j3, hj3, hqj3⟩ := i_ex (x := p3) 40 (by omega) (by omega)
          have ej3 : p3.toInt = (j3 : Int) := by rw [hqj3]; exact nI_toInt (by omega)
          rw [hqj3] at hl
          have hl : lv_has ls 7 [(0, .ref (a 0)), (1, .int p1), (2, .int p2), (3, .int (nI (j3))), (4, .int p4), (5, .int p5)] := hl
          obtain ⟨j4, hj4, hqj4⟩ := i_ex (x := p4) 40 (by omega) (by omega)
          have ej4 : p4.toInt = (j4 : Int) := by rw [hqj4]; exact nI_toInt (by omega)
          rw [hqj4] at hl
          have hl : lv_has ls 7 [(0, .ref (a 0)), (1, .int p1), (2, .int p2), (3, .int (nI (j3))), (4, .int (nI (j4))), (5, .int p5)] := hl
          refine lv_aload_n hx hb dX12_back_42 rfl (lv_at hl 0 rfl) ?_
          refine lv_iconst (v := (0 : Int32)) hx hb dX12_back_43 (by decide) ?_
          refine x_put (own := RX12) (T := TX12) C X 0 rfl rfl 56 (by decide) k_46_6 rfl rfl rfl (ty := .int) (v := .int (0 : Int32)) (by decide +kernel) rfl rfl (Nat.le_of_ble_eq_true rfl) dX12_back_44 (fun H locs X => ?_)
          have X : Wd D A s [((a 0), .inr (12, ((mF a)).set 56 (.int (0 : Int32)))), ((a 1), .inl (cI, 4, .inl (fun _ => (0 : Int32))))] H locs := X
          refine lv_aload_n hx hb dX12_back_47 rfl (lv_at hl 0 rfl) ?_
          refine lv_iconst (v := (0 : Int32)) hx hb dX12_back_48 (by decide) ?_
          refine x_put (own := RX12) (T := TX12) C X 0 rfl rfl 57 (by decide) k_46_7 rfl rfl rfl (ty := .int) (v := .int (0 : Int32)) (by decide +kernel) rfl rfl (Nat.le_of_ble_eq_true rfl) dX12_back_49 (fun H locs X => ?_)
          have X : Wd D A s [((a 0), .inr (12, (((mF a)).set 56 (.int (0 : Int32))).set 57 (.int (0 : Int32)))), ((a 1), .inl (cI, 4, .inl (fun _ => (0 : Int32))))] H locs := X
          refine lv_aload_n hx hb dX12_back_52 rfl (lv_at hl 0 rfl) ?_
          refine lv_iconst (v := (0 : Int32)) hx hb dX12_back_53 (by decide) ?_
          refine x_put (own := RX12) (T := TX12) C X 0 rfl rfl 58 (by decide) k_46_8 rfl rfl rfl (ty := .int) (v := .int (0 : Int32)) (by decide +kernel) rfl rfl (Nat.le_of_ble_eq_true rfl) dX12_back_54 (fun H locs X => ?_)
          have X : Wd D A s [((a 0), .inr (12, ((((mF a)).set 56 (.int (0 : Int32))).set 57 (.int (0 : Int32))).set 58 (.int (0 : Int32)))), ((a 1), .inl (cI, 4, .inl (fun _ => (0 : Int32))))] H locs := X
          refine lv_iload_n hx hb dX12_back_57 rfl (lv_at hl 3 rfl) ?_
          refine lv_istore (lv' := [(6, .int (nI (j3))), (0, .ref (a 0)), (1, .int p1), (2, .int p2), (3, .int (nI (j3))), (4, .int (nI (j4))), (5, .int p5)]) hx hb dX12_back_58 hl (by decide) rfl (fun ls hl => ?_)
          have L60 : ∀ (n : Nat) (v : Nat) (H : Heap) (locs : List Loc) (ls : Array Slot), (g1 : v ≤ j4 + 1) → j4 + 1 < v + n → Wd D A s [((a 0), .inr (12, ((((mF a)).set 56 (.int (0 : Int32))).set 57 (.int (0 : Int32))).set 58 (.int (0 : Int32)))), ((a 1), .inl (cI, 4, .inl (fun _ => (0 : Int32))))] H locs → lv_has ls 7 [(6, .int (nI (v))), (0, .ref (a 0)), (1, .int p1), (2, .int p2), (3, .int (nI (j3))), (4, .int (nI (j4))), (5, .int p5)] → W p l e ({ frames := 2, cells := 0, slots := 0, locals := 41 } : Room) s m ([.ref (a 0), .int p1, .int p2, .int p3, .int p4, .int p5] : List Value).toArray below meth c H locs 0 0 (MQ below (va_Qi (fun (r : Int32) (u : Unit) => (r = (0 : Int32) ∧ (0 ≤ p1.toInt ∧ p1.toInt ≤ 2 ∧ 1 ≤ p2.toInt ∧ p2.toInt ≤ 20 ∧ 0 ≤ p3.toInt ∧ p3.toInt ≤ p4.toInt ∧ p4.toInt ≤ 39 ∧ 0 ≤ p5.toInt ∧ p5.toInt ≤ 2)) ∨ (r = (-1000000000 : Int32) ∧ (p1.toInt < 0 ∨ 2 < p1.toInt ∨ p2.toInt < 1 ∨ 20 < p2.toInt ∨ p3.toInt < 0 ∨ p4.toInt < p3.toInt ∨ 39 < p4.toInt ∨ p5.toInt < 0 ∨ 2 < p5.toInt))) (fun u t => Aft D A ((fun (_ : Unit) => []) u) t) A) ([.ref (a 0), .int p1, .int p2, .int p3, .int p4, .int p5] : List Value).toArray s 0 0 A) (F0 m 60 ls []) := by
            intro n
            induction n with
            | zero => intro v H locs ls g1 hn; exact absurd hn (by omega)
            | succ n ih =>
              intro v H locs ls g1 hn X hl
              have ih60 := ih
              refine lv_iload hx hb dX12_back_60 (lv_at hl 0 rfl) ?_
              refine lv_iload hx hb dX12_back_62 (lv_at hl 5 rfl) ?_
              refine lv_icmp_gt (tgt := 81) hx hb dX12_back_64 (by decide) (fun c_13 => ?_) (fun c_13 => ?_)
              · have fc_13 : ((j4 : Nat) : Int) < ((v : Nat) : Int) := (by have h9 := i_lt c_13; simp only [nI_toInt (n := j4) (by omega), nI_toInt (n := v) (by omega)] at h9; exact h9)
                refine lv_iload hx hb dX12_back_81 (lv_at hl 6 rfl) ?_
                refine lv_if_ne (tgt := 93) hx hb dX12_back_83 (by decide) (fun c_14 => ?_) (fun c_14 => ?_)
                · have fc_14 : (p5).toInt ≠ (0 : Int) := i_ne c_14
                  refine lv_iload hx hb dX12_back_93 (lv_at hl 6 rfl) ?_
                  refine lv_iconst (v := (1 : Int32)) hx hb dX12_back_95 (by decide) ?_
                  refine lv_icmp_ne (tgt := 106) hx hb dX12_back_96 (by decide) (fun c_15 => ?_) (fun c_15 => ?_)
                  · have fc_15 : (p5).toInt ≠ (1 : Int) := i_ne c_15
                    refine lv_aload_n hx hb dX12_back_106 rfl (lv_at hl 1 rfl) ?_
                    refine x_get (own := RX12) (T := TX12) C X 0 rfl rfl 58 (by decide) k_46_8 rfl rfl (v := .int (0 : Int32)) rfl dX12_back_107 ?_
                    exact x_iret C X hr hlk (v := (0 : Int32)) (by first | rfl | decide) (()) [] (by decide) rfl (Or.inl (⟨rfl, by omega⟩)) (Nat.le_of_ble_eq_true rfl) (Nat.le_of_ble_eq_true rfl) dX12_back_110
                  · have fc_15 : (p5).toInt = (1 : Int) := i_eq c_15
                    refine lv_aload_n hx hb dX12_back_99 rfl (lv_at hl 1 rfl) ?_
                    refine x_get (own := RX12) (T := TX12) C X 0 rfl rfl 57 (by decide) k_46_7 rfl rfl (v := .int (0 : Int32)) rfl dX12_back_100 ?_
                    refine lv_goto (tgt := 110) hx hb dX12_back_103 (by decide) ?_
                    exact x_iret C X hr hlk (v := (0 : Int32)) (by first | rfl | decide) (()) [] (by decide) rfl (Or.inl (⟨rfl, by omega⟩)) (Nat.le_of_ble_eq_true rfl) (Nat.le_of_ble_eq_true rfl) dX12_back_110
                · have fc_14 : (p5).toInt = (0 : Int) := i_eq c_14
                  refine lv_aload_n hx hb dX12_back_86 rfl (lv_at hl 1 rfl) ?_
                  refine x_get (own := RX12) (T := TX12) C X 0 rfl rfl 56 (by decide) k_46_6 rfl rfl (v := .int (0 : Int32)) rfl dX12_back_87 ?_
                  refine lv_goto (tgt := 110) hx hb dX12_back_90 (by decide) ?_
                  exact x_iret C X hr hlk (v := (0 : Int32)) (by first | rfl | decide) (()) [] (by decide) rfl (Or.inl (⟨rfl, by omega⟩)) (Nat.le_of_ble_eq_true rfl) (Nat.le_of_ble_eq_true rfl) dX12_back_110
              · have fc_13 : ((v : Nat) : Int) ≤ ((j4 : Nat) : Int) := (by have h9 := i_nlt c_13; simp only [nI_toInt (n := j4) (by omega), nI_toInt (n := v) (by omega)] at h9; exact h9)
                refine lv_aload_n hx hb dX12_back_67 rfl (lv_at hl 1 rfl) ?_
                refine lv_iload hx hb dX12_back_68 (lv_at hl 0 rfl) ?_
                refine lv_iload_n hx hb dX12_back_70 rfl (lv_at hl 2 rfl) ?_
                refine lv_iload_n hx hb dX12_back_71 rfl (lv_at hl 3 rfl) ?_
                refine x_cVv (own := RX12) (wr := []) (As := [.int (nI (v)), .int p1, .int p2]) C X hl.1 (cm_leadsIn l D cI cJ cZ cB cO a (nI (v)) p1 p2) [0, 1] [] ⟨rfl, rfl, by decide, by decide, by decide⟩ (qb := 0) rfl rfl k_46_9 k_46_10 k_46_11 k_1_5 k_46_12 (n := 3) (by decide +kernel) ⟨Nat.le_of_ble_eq_true rfl, Nat.le_of_ble_eq_true rfl⟩ rfl rfl (Nat.le_of_ble_eq_true rfl) dX12_back_72 ⟨Nat.le_of_ble_eq_true rfl, Nat.le_of_ble_eq_true rfl⟩ (fun u_16 H locs w_18 X => ?_)
                have X : Wd D A s [((a 0), .inr (12, ((((mF a)).set 56 (.int (0 : Int32))).set 57 (.int (0 : Int32))).set 58 (.int (0 : Int32)))), ((a 1), .inl (cI, 4, .inl (fun _ => (0 : Int32))))] H locs := X
                refine W.widen (k := 0) (n := 0) (Nat.le_of_ble_eq_true rfl) (Nat.le_of_ble_eq_true rfl) ?_
                refine lv_iinc (v := (nI (v + 1))) (lv' := [(6, .int (nI (v + 1))), (0, .ref (a 0)), (1, .int p1), (2, .int p2), (3, .int (nI (j3))), (4, .int (nI (j4))), (5, .int p5)]) hx hb dX12_back_75 hl (k := 0) rfl (nI_add _ 1) (by decide) rfl (fun ls hl => ?_)
                refine lv_goto (tgt := 60) hx hb dX12_back_78 (by decide) ?_
                exact ih60  (v + 1) H locs ls (by omega) (by omega) (x_sub X [0, 1] (by decide) rfl) (lv_sub hl [0, 1, 2, 3, 4, 5, 6] rfl)
          exact L60 (j4 + 1 + 1) (j3) H locs ls (by omega) (by omega) (x_sub X [0, 1] (by decide) rfl) (lv_sub hl [0, 1, 2, 3, 4, 5, 6] rfl)
        · refine lv_if_ne (tgt := 42) hx hb dX12_back_35 (by decide) (fun c0 => absurd (by decide) c0) (fun _ => ?_)
          refine lv_ldcw (own := RX12) (v := (-1000000000 : Int32)) hx hb hown (hts _ k_46_5) dX12_back_38 ?_
          exact x_iret C X hr hlk (v := (-1000000000 : Int32)) (by first | rfl | decide) (()) [] (by decide) rfl (Or.inr (⟨rfl, by omega⟩)) (Nat.le_of_ble_eq_true rfl) (Nat.le_of_ble_eq_true rfl) dX12_back_41
      · refine lv_if_eq (tgt := 38) hx hb dX12_back_25 (by decide) (fun _ => ?_) (fun c0 => absurd (by decide) c0)
        refine lv_ldcw (own := RX12) (v := (-1000000000 : Int32)) hx hb hown (hts _ k_46_5) dX12_back_38 ?_
        exact x_iret C X hr hlk (v := (-1000000000 : Int32)) (by first | rfl | decide) (()) [] (by decide) rfl (Or.inr (⟨rfl, by omega⟩)) (Nat.le_of_ble_eq_true rfl) (Nat.le_of_ble_eq_true rfl) dX12_back_41
    · refine lv_if_eq (tgt := 38) hx hb dX12_back_16 (by decide) (fun _ => ?_) (fun c0 => absurd (by decide) c0)
      refine lv_ldcw (own := RX12) (v := (-1000000000 : Int32)) hx hb hown (hts _ k_46_5) dX12_back_38 ?_
      exact x_iret C X hr hlk (v := (-1000000000 : Int32)) (by first | rfl | decide) (()) [] (by decide) rfl (Or.inr (⟨rfl, by omega⟩)) (Nat.le_of_ble_eq_true rfl) (Nat.le_of_ble_eq_true rfl) dX12_back_41
  · refine lv_if_eq (tgt := 38) hx hb dX12_back_6 (by decide) (fun _ => ?_) (fun c0 => absurd (by decide) c0)
    refine lv_ldcw (own := RX12) (v := (-1000000000 : Int32)) hx hb hown (hts _ k_46_5) dX12_back_38 ?_
    exact x_iret C X hr hlk (v := (-1000000000 : Int32)) (by first | rfl | decide) (()) [] (by decide) rfl (Or.inr (⟨rfl, by omega⟩)) (Nat.le_of_ble_eq_true rfl) (Nat.le_of_ble_eq_true rfl) dX12_back_41
set_option maxHeartbeats 4000000 in
set_option maxRecDepth 100000 in
theorem cm_findWorth (l : Launch) (D : va_G) (cI cJ cZ cB : ClassId) (cO : ClassId) (a : Nat → Nat) (hour : Int32) (j2 : Nat) (j3 : Nat) (hi : j2 ≤ j3) (hj : j3 < 40) :
    CV l D [(cI, .int), (cJ, .long), (cZ, .boolean), (cB, .byte), (cO, .object "LuckLinks$World")] yX12_findWorth cX12_findWorth 17 ({ frames := 0, cells := 0, slots := 0, locals := 0 } : Room) [.ref (a 0), .int hour, .int (nI (j2)), .int (nI (j3))] [((a 0), .inr (12, (mF a))), ((a 1), .inl (cI, 4, .inl (fun _ => (0 : Int32))))] (fun (u : Unit) => (True)) (fun (_ : Unit) => [((a 0), .inr (12, (mF a))), ((a 1), .inl (cI, 4, .inl (fun _ => (0 : Int32))))]) := by
  intro sz
  refine body_of (y := yX12_findWorth) (cc := cX12_findWorth) (maxL := 17) (ret := none) (rm := ({ frames := 0, cells := 0, slots := 0, locals := 0 } : Room)) (wc := [((a 0), .inr (12, (mF a))), ((a 1), .inl (cI, 4, .inl (fun _ => (0 : Int32))))]) (tys := [(cI, .int), (cJ, .long), (cZ, .boolean), (cB, .byte), (cO, .object "LuckLinks$World")]) (D := D) (sz := sz) (own := RX12) (av := [.ref (a 0), .int hour, .int (nI (j2)), .int (nI (j3))]) (Qc := fun A => va_Qv (fun (u : Unit) => (True)) (fun u t => Aft D A ((fun (_ : Unit) => [((a 0), .inr (12, (mF a))), ((a 1), .inl (cI, 4, .inl (fun _ => (0 : Int32))))]) u) t) A) (by decide) rfl (Nat.le_of_ble_eq_true rfl) (fun p e s m below meth c A ls C hr hlk hin X hl => ?_)
  have hx := C.1
  have hb := C.2.1
  have hown := C.2.2.2.1
  have hts := C.2.2.2.2.1
  have hl : lv_has ls 17 [(0, .ref (a 0)), (1, .int hour), (2, .int (nI (j2))), (3, .int (nI (j3)))] := hl
  show W p l e _ s m _ below meth c s.heap [] 0 0 (MQ below (va_Qv (fun (u : Unit) => (True)) (fun u t => Aft D A ((fun (_ : Unit) => [((a 0), .inr (12, (mF a))), ((a 1), .inl (cI, 4, .inl (fun _ => (0 : Int32))))]) u) t) A) ([.ref (a 0), .int hour, .int (nI (j2)), .int (nI (j3))] : List Value).toArray s 0 0 A) (F0 m 0 ls [])
  have X : Wd D A s [((a 0), .inr (12, (mF a))), ((a 1), .inl (cI, 4, .inl (fun _ => (0 : Int32))))] s.heap [] := X
  obtain ⟨H, locs, eH, eL⟩ : ∃ H locs, H = s.heap ∧ locs = ([] : List Loc) := ⟨_, _, rfl, rfl⟩
  rw [← eH, ← eL] at X ⊢
  clear eH eL
  refine lv_aload_n hx hb dX12_findWorth_0 rfl (lv_at hl 0 rfl) ?_
  refine lv_lconst (v := (0 : Int64)) hx hb dX12_findWorth_1 (by decide) ?_
  refine x_put (own := RX12) (T := TX12) C X 0 rfl rfl 71 (by decide) k_62_9 rfl rfl rfl (ty := .long) (v := .long (0 : Int64)) (by decide +kernel) rfl rfl (Nat.le_of_ble_eq_true rfl) dX12_findWorth_2 (fun H locs X => ?_)
  have X : Wd D A s [((a 0), .inr (12, ((mF a)).set 71 (.long (0 : Int64)))), ((a 1), .inl (cI, 4, .inl (fun _ => (0 : Int32))))] H locs := X
  refine lv_aload_n hx hb dX12_findWorth_5 rfl (lv_at hl 0 rfl) ?_
  refine lv_lconst (v := (0 : Int64)) hx hb dX12_findWorth_6 (by decide) ?_
  refine x_put (own := RX12) (T := TX12) C X 0 rfl rfl 72 (by decide) k_62_8 rfl rfl rfl (ty := .long) (v := .long (0 : Int64)) (by decide +kernel) rfl rfl (Nat.le_of_ble_eq_true rfl) dX12_findWorth_7 (fun H locs X => ?_)
  have X : Wd D A s [((a 0), .inr (12, (((mF a)).set 71 (.long (0 : Int64))).set 72 (.long (0 : Int64)))), ((a 1), .inl (cI, 4, .inl (fun _ => (0 : Int32))))] H locs := X
  refine lv_iload_n hx hb dX12_findWorth_10 rfl (lv_at hl 2 rfl) ?_
  refine lv_istore (lv' := [(4, .int (nI (j2))), (0, .ref (a 0)), (1, .int hour), (2, .int (nI (j2))), (3, .int (nI (j3)))]) hx hb dX12_findWorth_11 hl (by decide) rfl (fun ls hl => ?_)
  have L13 : ∀ (n : Nat) (v : Nat) (H : Heap) (locs : List Loc) (ls : Array Slot), (g1 : v ≤ j3 + 1) → j3 + 1 < v + n → Wd D A s [((a 0), .inr (12, (((mF a)).set 71 (.long (0 : Int64))).set 72 (.long (0 : Int64)))), ((a 1), .inl (cI, 4, .inl (fun _ => (0 : Int32))))] H locs → lv_has ls 17 [(4, .int (nI (v))), (0, .ref (a 0)), (1, .int hour), (2, .int (nI (j2))), (3, .int (nI (j3)))] → W p l e ({ frames := 0, cells := 0, slots := 0, locals := 0 } : Room) s m ([.ref (a 0), .int hour, .int (nI (j2)), .int (nI (j3))] : List Value).toArray below meth c H locs 0 0 (MQ below (va_Qv (fun (u : Unit) => (True)) (fun u t => Aft D A ((fun (_ : Unit) => [((a 0), .inr (12, (mF a))), ((a 1), .inl (cI, 4, .inl (fun _ => (0 : Int32))))]) u) t) A) ([.ref (a 0), .int hour, .int (nI (j2)), .int (nI (j3))] : List Value).toArray s 0 0 A) (F0 m 13 ls []) := by
    intro n
    induction n with
    | zero => intro v H locs ls g1 hn; exact absurd hn (by omega)
    | succ n ih =>
      intro v H locs ls g1 hn X hl
      have ih13 := ih
      refine lv_iload hx hb dX12_findWorth_13 (lv_at hl 0 rfl) ?_
      refine lv_iload_n hx hb dX12_findWorth_15 rfl (lv_at hl 4 rfl) ?_
      refine lv_icmp_gt (tgt := 181) hx hb dX12_findWorth_16 (by decide) (fun c_1 => ?_) (fun c_1 => ?_)
      · have fc_1 : ((j3 : Nat) : Int) < ((v : Nat) : Int) := (by have h9 := i_lt c_1; simp only [nI_toInt (n := j3) (by omega), nI_toInt (n := v) (by omega)] at h9; exact h9)
        exact x_vret C X hr hlk (()) [0, 1] (by decide) rfl (trivial) (Nat.le_of_ble_eq_true rfl) (Nat.le_of_ble_eq_true rfl) dX12_findWorth_181
      · have fc_1 : ((v : Nat) : Int) ≤ ((j3 : Nat) : Int) := (by have h9 := i_nlt c_1; simp only [nI_toInt (n := j3) (by omega), nI_toInt (n := v) (by omega)] at h9; exact h9)
        refine lv_iconst (v := (0 : Int32)) hx hb dX12_findWorth_19 (by decide) ?_
        refine lv_istore (lv' := [(5, .int (0 : Int32)), (4, .int (nI (v))), (0, .ref (a 0)), (1, .int hour), (2, .int (nI (j2))), (3, .int (nI (j3)))]) hx hb dX12_findWorth_20 hl (by decide) rfl (fun ls hl => ?_)
        refine lv_iload hx hb dX12_findWorth_22 (lv_at hl 0 rfl) ?_
        refine lv_iconst (v := (4 : Int32)) hx hb dX12_findWorth_24 (by decide) ?_
        refine lv_icmp_ge (tgt := 175) hx hb dX12_findWorth_25 (by decide) (fun c0 => absurd c0 (by decide)) (fun _ => ?_)
        refine lv_lconst (v := (0 : Int64)) hx hb dX12_findWorth_28 (by decide) ?_
        refine lv_lstore (lv' := [(6, .long (0 : Int64)), (5, .int (0 : Int32)), (4, .int (nI (v))), (0, .ref (a 0)), (1, .int hour), (2, .int (nI (j2))), (3, .int (nI (j3)))]) hx hb dX12_findWorth_29 hl (by decide) rfl (fun ls hl => ?_)
        refine lv_lconst (v := (0 : Int64)) hx hb dX12_findWorth_31 (by decide) ?_
        refine lv_lstore (lv' := [(8, .long (0 : Int64)), (6, .long (0 : Int64)), (5, .int (0 : Int32)), (4, .int (nI (v))), (0, .ref (a 0)), (1, .int hour), (2, .int (nI (j2))), (3, .int (nI (j3)))]) hx hb dX12_findWorth_32 hl (by decide) rfl (fun ls hl => ?_)
        refine lv_lconst (v := (0 : Int64)) hx hb dX12_findWorth_34 (by decide) ?_
        refine lv_lstore (lv' := [(10, .long (0 : Int64)), (8, .long (0 : Int64)), (6, .long (0 : Int64)), (5, .int (0 : Int32)), (4, .int (nI (v))), (0, .ref (a 0)), (1, .int hour), (2, .int (nI (j2))), (3, .int (nI (j3)))]) hx hb dX12_findWorth_35 hl (by decide) rfl (fun ls hl => ?_)
        refine lv_lconst (v := (0 : Int64)) hx hb dX12_findWorth_37 (by decide) ?_
        refine lv_lstore (lv' := [(12, .long (0 : Int64)), (10, .long (0 : Int64)), (8, .long (0 : Int64)), (6, .long (0 : Int64)), (5, .int (0 : Int32)), (4, .int (nI (v))), (0, .ref (a 0)), (1, .int hour), (2, .int (nI (j2))), (3, .int (nI (j3)))]) hx hb dX12_findWorth_38 hl (by decide) rfl (fun ls hl => ?_)
        refine lv_iconst (v := (0 : Int32)) hx hb dX12_findWorth_40 (by decide) ?_
        refine lv_istore (lv' := [(14, .int (0 : Int32)), (12, .long (0 : Int64)), (10, .long (0 : Int64)), (8, .long (0 : Int64)), (6, .long (0 : Int64)), (5, .int (0 : Int32)), (4, .int (nI (v))), (0, .ref (a 0)), (1, .int hour), (2, .int (nI (j2))), (3, .int (nI (j3)))]) hx hb dX12_findWorth_41 hl (by decide) rfl (fun ls hl => ?_)
        refine lv_iload hx hb dX12_findWorth_43 (lv_at hl 0 rfl) ?_
        refine lv_aload_n hx hb dX12_findWorth_45 rfl (lv_at hl 7 rfl) ?_
        refine x_get (own := RX12) (T := TX12) C X 0 rfl rfl 0 (by decide) k_9_16 rfl rfl (v := .ref (a 1)) rfl dX12_findWorth_46 ?_
        refine lv_iconst (v := (0 : Int32)) hx hb dX12_findWorth_49 (by decide) ?_
        refine x_iald C X 1 0 rfl rfl (j := 0) rfl (vp_in_nI (n := 0) (by omega) (by omega)) (v := (0 : Int32)) (rfl) dX12_findWorth_50 ?_
        refine lv_icmp_ge (tgt := 135) hx hb dX12_findWorth_51 (by decide) (fun _ => ?_) (fun c0 => absurd (by decide) c0)
        refine lv_aload_n hx hb dX12_findWorth_135 rfl (lv_at hl 7 rfl) ?_
        refine lv_dup hx hb dX12_findWorth_136 rfl ?_
        refine x_get (own := RX12) (T := TX12) C X 0 rfl rfl 71 (by decide) k_62_9 rfl rfl (v := .long (0 : Int64)) rfl dX12_findWorth_137 ?_
        refine lv_lload hx hb dX12_findWorth_140 (lv_at hl 4 rfl) ?_
        refine lv_lload hx hb dX12_findWorth_142 (lv_at hl 1 rfl) ?_
        refine lv_lmul hx hb dX12_findWorth_144 ?_
        refine x_eql (show (0 : Int64) * (0 : Int64) = (0 : Int64) from by decide +kernel) ?_
        refine lv_lload hx hb dX12_findWorth_145 (lv_at hl 3 rfl) ?_
        refine lv_lload hx hb dX12_findWorth_147 (lv_at hl 2 rfl) ?_
        refine lv_lmul hx hb dX12_findWorth_149 ?_
        refine x_eql (show (0 : Int64) * (0 : Int64) = (0 : Int64) from by decide +kernel) ?_
        refine lv_lsub hx hb dX12_findWorth_150 ?_
        refine x_eql (show (0 : Int64) - (0 : Int64) = (0 : Int64) from by decide +kernel) ?_
        refine lv_ladd hx hb dX12_findWorth_151 ?_
        refine x_eql (show (0 : Int64) + (0 : Int64) = (0 : Int64) from by decide +kernel) ?_
        refine x_put (own := RX12) (T := TX12) C X 0 rfl rfl 71 (by decide) k_62_9 rfl rfl rfl (ty := .long) (v := .long (0 : Int64)) (by decide +kernel) rfl rfl (Nat.le_of_ble_eq_true rfl) dX12_findWorth_152 (fun H locs X => ?_)
        have X : Wd D A s [((a 0), .inr (12, ((((mF a)).set 71 (.long (0 : Int64))).set 72 (.long (0 : Int64))).set 71 (.long (0 : Int64)))), ((a 1), .inl (cI, 4, .inl (fun _ => (0 : Int32))))] H locs := X
        refine lv_aload_n hx hb dX12_findWorth_155 rfl (lv_at hl 7 rfl) ?_
        refine lv_dup hx hb dX12_findWorth_156 rfl ?_
        refine x_get (own := RX12) (T := TX12) C X 0 rfl rfl 72 (by decide) k_62_8 rfl rfl (v := .long (0 : Int64)) rfl dX12_findWorth_157 ?_
        refine lv_lload hx hb dX12_findWorth_160 (lv_at hl 4 rfl) ?_
        refine lv_lload hx hb dX12_findWorth_162 (lv_at hl 3 rfl) ?_
        refine lv_lmul hx hb dX12_findWorth_164 ?_
        refine x_eql (show (0 : Int64) * (0 : Int64) = (0 : Int64) from by decide +kernel) ?_
        refine lv_ladd hx hb dX12_findWorth_165 ?_
        refine x_eql (show (0 : Int64) + (0 : Int64) = (0 : Int64) from by decide +kernel) ?_
        refine x_put (own := RX12) (T := TX12) C X 0 rfl rfl 72 (by decide) k_62_8 rfl rfl rfl (ty := .long) (v := .long (0 : Int64)) (by decide +kernel) rfl rfl (Nat.le_of_ble_eq_true rfl) dX12_findWorth_166 (fun H locs X => ?_)
        have X : Wd D A s [((a 0), .inr (12, (((((mF a)).set 71 (.long (0 : Int64))).set 72 (.long (0 : Int64))).set 71 (.long (0 : Int64))).set 72 (.long (0 : Int64)))), ((a 1), .inl (cI, 4, .inl (fun _ => (0 : Int32))))] H locs := X
        refine lv_iinc (v := (1 : Int32)) (lv' := [(5, .int (1 : Int32)), (14, .int (0 : Int32)), (12, .long (0 : Int64)), (10, .long (0 : Int64)), (8, .long (0 : Int64)), (6, .long (0 : Int64)), (4, .int (nI (v))), (0, .ref (a 0)), (1, .int hour), (2, .int (nI (j2))), (3, .int (nI (j3)))]) hx hb dX12_findWorth_169 hl (k := 5) rfl (by decide) (by decide) rfl (fun ls hl => ?_)
        refine lv_goto (tgt := 22) hx hb dX12_findWorth_172 (by decide) ?_
        refine lv_iload hx hb dX12_findWorth_22 (lv_at hl 0 rfl) ?_
        refine lv_iconst (v := (4 : Int32)) hx hb dX12_findWorth_24 (by decide) ?_
        refine lv_icmp_ge (tgt := 175) hx hb dX12_findWorth_25 (by decide) (fun c0 => absurd c0 (by decide)) (fun _ => ?_)
        refine lv_lconst (v := (0 : Int64)) hx hb dX12_findWorth_28 (by decide) ?_
        refine lv_lstore (lv' := [(6, .long (0 : Int64)), (5, .int (1 : Int32)), (14, .int (0 : Int32)), (12, .long (0 : Int64)), (10, .long (0 : Int64)), (8, .long (0 : Int64)), (4, .int (nI (v))), (0, .ref (a 0)), (1, .int hour), (2, .int (nI (j2))), (3, .int (nI (j3)))]) hx hb dX12_findWorth_29 hl (by decide) rfl (fun ls hl => ?_)
        refine lv_lconst (v := (0 : Int64)) hx hb dX12_findWorth_31 (by decide) ?_
        refine lv_lstore (lv' := [(8, .long (0 : Int64)), (6, .long (0 : Int64)), (5, .int (1 : Int32)), (14, .int (0 : Int32)), (12, .long (0 : Int64)), (10, .long (0 : Int64)), (4, .int (nI (v))), (0, .ref (a 0)), (1, .int hour), (2, .int (nI (j2))), (3, .int (nI (j3)))]) hx hb dX12_findWorth_32 hl (by decide) rfl (fun ls hl => ?_)
        refine lv_lconst (v := (0 : Int64)) hx hb dX12_findWorth_34 (by decide) ?_
        refine lv_lstore (lv' := [(10, .long (0 : Int64)), (8, .long (0 : Int64)), (6, .long (0 : Int64)), (5, .int (1 : Int32)), (14, .int (0 : Int32)), (12, .long (0 : Int64)), (4, .int (nI (v))), (0, .ref (a 0)), (1, .int hour), (2, .int (nI (j2))), (3, .int (nI (j3)))]) hx hb dX12_findWorth_35 hl (by decide) rfl (fun ls hl => ?_)
        refine lv_lconst (v := (0 : Int64)) hx hb dX12_findWorth_37 (by decide) ?_
        refine lv_lstore (lv' := [(12, .long (0 : Int64)), (10, .long (0 : Int64)), (8, .long (0 : Int64)), (6, .long (0 : Int64)), (5, .int (1 : Int32)), (14, .int (0 : Int32)), (4, .int (nI (v))), (0, .ref (a 0)), (1, .int hour), (2, .int (nI (j2))), (3, .int (nI (j3)))]) hx hb dX12_findWorth_38 hl (by decide) rfl (fun ls hl => ?_)
        refine lv_iconst (v := (0 : Int32)) hx hb dX12_findWorth_40 (by decide) ?_
        refine lv_istore (lv' := [(14, .int (0 : Int32)), (12, .long (0 : Int64)), (10, .long (0 : Int64)), (8, .long (0 : Int64)), (6, .long (0 : Int64)), (5, .int (1 : Int32)), (4, .int (nI (v))), (0, .ref (a 0)), (1, .int hour), (2, .int (nI (j2))), (3, .int (nI (j3)))]) hx hb dX12_findWorth_41 hl (by decide) rfl (fun ls hl => ?_)
        refine lv_iload hx hb dX12_findWorth_43 (lv_at hl 0 rfl) ?_
        refine lv_aload_n hx hb dX12_findWorth_45 rfl (lv_at hl 7 rfl) ?_
        refine x_get (own := RX12) (T := TX12) C X 0 rfl rfl 0 (by decide) k_9_16 rfl rfl (v := .ref (a 1)) rfl dX12_findWorth_46 ?_
        refine lv_iconst (v := (0 : Int32)) hx hb dX12_findWorth_49 (by decide) ?_
        refine x_iald C X 1 0 rfl rfl (j := 0) rfl (vp_in_nI (n := 0) (by omega) (by omega)) (v := (0 : Int32)) (rfl) dX12_findWorth_50 ?_
        refine lv_icmp_ge (tgt := 135) hx hb dX12_findWorth_51 (by decide) (fun _ => ?_) (fun c0 => absurd (by decide) c0)
        refine lv_aload_n hx hb dX12_findWorth_135 rfl (lv_at hl 7 rfl) ?_
        refine lv_dup hx hb dX12_findWorth_136 rfl ?_
        refine x_get (own := RX12) (T := TX12) C X 0 rfl rfl 71 (by decide) k_62_9 rfl rfl (v := .long (0 : Int64)) rfl dX12_findWorth_137 ?_
        refine lv_lload hx hb dX12_findWorth_140 (lv_at hl 4 rfl) ?_
        refine lv_lload hx hb dX12_findWorth_142 (lv_at hl 1 rfl) ?_
        refine lv_lmul hx hb dX12_findWorth_144 ?_
        refine x_eql (show (0 : Int64) * (0 : Int64) = (0 : Int64) from by decide +kernel) ?_
        refine lv_lload hx hb dX12_findWorth_145 (lv_at hl 3 rfl) ?_
        refine lv_lload hx hb dX12_findWorth_147 (lv_at hl 2 rfl) ?_
        refine lv_lmul hx hb dX12_findWorth_149 ?_
        refine x_eql (show (0 : Int64) * (0 : Int64) = (0 : Int64) from by decide +kernel) ?_
        refine lv_lsub hx hb dX12_findWorth_150 ?_
        refine x_eql (show (0 : Int64) - (0 : Int64) = (0 : Int64) from by decide +kernel) ?_
        refine lv_ladd hx hb dX12_findWorth_151 ?_
        refine x_eql (show (0 : Int64) + (0 : Int64) = (0 : Int64) from by decide +kernel) ?_
        refine x_put (own := RX12) (T := TX12) C X 0 rfl rfl 71 (by decide) k_62_9 rfl rfl rfl (ty := .long) (v := .long (0 : Int64)) (by decide +kernel) rfl rfl (Nat.le_of_ble_eq_true rfl) dX12_findWorth_152 (fun H locs X => ?_)
        have X : Wd D A s [((a 0), .inr (12, ((((((mF a)).set 71 (.long (0 : Int64))).set 72 (.long (0 : Int64))).set 71 (.long (0 : Int64))).set 72 (.long (0 : Int64))).set 71 (.long (0 : Int64)))), ((a 1), .inl (cI, 4, .inl (fun _ => (0 : Int32))))] H locs := X
        refine lv_aload_n hx hb dX12_findWorth_155 rfl (lv_at hl 7 rfl) ?_
        refine lv_dup hx hb dX12_findWorth_156 rfl ?_
        refine x_get (own := RX12) (T := TX12) C X 0 rfl rfl 72 (by decide) k_62_8 rfl rfl (v := .long (0 : Int64)) rfl dX12_findWorth_157 ?_
        refine lv_lload hx hb dX12_findWorth_160 (lv_at hl 4 rfl) ?_
        refine lv_lload hx hb dX12_findWorth_162 (lv_at hl 3 rfl) ?_
        refine lv_lmul hx hb dX12_findWorth_164 ?_
        refine x_eql (show (0 : Int64) * (0 : Int64) = (0 : Int64) from by decide +kernel) ?_
        refine lv_ladd hx hb dX12_findWorth_165 ?_
        refine x_eql (show (0 : Int64) + (0 : Int64) = (0 : Int64) from by decide +kernel) ?_
        refine x_put (own := RX12) (T := TX12) C X 0 rfl rfl 72 (by decide) k_62_8 rfl rfl rfl (ty := .long) (v := .long (0 : Int64)) (by decide +kernel) rfl rfl (Nat.le_of_ble_eq_true rfl) dX12_findWorth_166 (fun H locs X => ?_)
        have X : Wd D A s [((a 0), .inr (12, (((((((mF a)).set 71 (.long (0 : Int64))).set 72 (.long (0 : Int64))).set 71 (.long (0 : Int64))).set 72 (.long (0 : Int64))).set 71 (.long (0 : Int64))).set 72 (.long (0 : Int64)))), ((a 1), .inl (cI, 4, .inl (fun _ => (0 : Int32))))] H locs := X
        refine lv_iinc (v := (2 : Int32)) (lv' := [(5, .int (2 : Int32)), (14, .int (0 : Int32)), (12, .long (0 : Int64)), (10, .long (0 : Int64)), (8, .long (0 : Int64)), (6, .long (0 : Int64)), (4, .int (nI (v))), (0, .ref (a 0)), (1, .int hour), (2, .int (nI (j2))), (3, .int (nI (j3)))]) hx hb dX12_findWorth_169 hl (k := 5) rfl (by decide) (by decide) rfl (fun ls hl => ?_)
        refine lv_goto (tgt := 22) hx hb dX12_findWorth_172 (by decide) ?_
        refine lv_iload hx hb dX12_findWorth_22 (lv_at hl 0 rfl) ?_
        refine lv_iconst (v := (4 : Int32)) hx hb dX12_findWorth_24 (by decide) ?_
        refine lv_icmp_ge (tgt := 175) hx hb dX12_findWorth_25 (by decide) (fun c0 => absurd c0 (by decide)) (fun _ => ?_)
        refine lv_lconst (v := (0 : Int64)) hx hb dX12_findWorth_28 (by decide) ?_
        refine lv_lstore (lv' := [(6, .long (0 : Int64)), (5, .int (2 : Int32)), (14, .int (0 : Int32)), (12, .long (0 : Int64)), (10, .long (0 : Int64)), (8, .long (0 : Int64)), (4, .int (nI (v))), (0, .ref (a 0)), (1, .int hour), (2, .int (nI (j2))), (3, .int (nI (j3)))]) hx hb dX12_findWorth_29 hl (by decide) rfl (fun ls hl => ?_)
        refine lv_lconst (v := (0 : Int64)) hx hb dX12_findWorth_31 (by decide) ?_
        refine lv_lstore (lv' := [(8, .long (0 : Int64)), (6, .long (0 : Int64)), (5, .int (2 : Int32)), (14, .int (0 : Int32)), (12, .long (0 : Int64)), (10, .long (0 : Int64)), (4, .int (nI (v))), (0, .ref (a 0)), (1, .int hour), (2, .int (nI (j2))), (3, .int (nI (j3)))]) hx hb dX12_findWorth_32 hl (by decide) rfl (fun ls hl => ?_)
        refine lv_lconst (v := (0 : Int64)) hx hb dX12_findWorth_34 (by decide) ?_
        refine lv_lstore (lv' := [(10, .long (0 : Int64)), (8, .long (0 : Int64)), (6, .long (0 : Int64)), (5, .int (2 : Int32)), (14, .int (0 : Int32)), (12, .long (0 : Int64)), (4, .int (nI (v))), (0, .ref (a 0)), (1, .int hour), (2, .int (nI (j2))), (3, .int (nI (j3)))]) hx hb dX12_findWorth_35 hl (by decide) rfl (fun ls hl => ?_)
        refine lv_lconst (v := (0 : Int64)) hx hb dX12_findWorth_37 (by decide) ?_
        refine lv_lstore (lv' := [(12, .long (0 : Int64)), (10, .long (0 : Int64)), (8, .long (0 : Int64)), (6, .long (0 : Int64)), (5, .int (2 : Int32)), (14, .int (0 : Int32)), (4, .int (nI (v))), (0, .ref (a 0)), (1, .int hour), (2, .int (nI (j2))), (3, .int (nI (j3)))]) hx hb dX12_findWorth_38 hl (by decide) rfl (fun ls hl => ?_)
        refine lv_iconst (v := (0 : Int32)) hx hb dX12_findWorth_40 (by decide) ?_
        refine lv_istore (lv' := [(14, .int (0 : Int32)), (12, .long (0 : Int64)), (10, .long (0 : Int64)), (8, .long (0 : Int64)), (6, .long (0 : Int64)), (5, .int (2 : Int32)), (4, .int (nI (v))), (0, .ref (a 0)), (1, .int hour), (2, .int (nI (j2))), (3, .int (nI (j3)))]) hx hb dX12_findWorth_41 hl (by decide) rfl (fun ls hl => ?_)
        refine lv_iload hx hb dX12_findWorth_43 (lv_at hl 0 rfl) ?_
        refine lv_aload_n hx hb dX12_findWorth_45 rfl (lv_at hl 7 rfl) ?_
        refine x_get (own := RX12) (T := TX12) C X 0 rfl rfl 0 (by decide) k_9_16 rfl rfl (v := .ref (a 1)) rfl dX12_findWorth_46 ?_
        refine lv_iconst (v := (0 : Int32)) hx hb dX12_findWorth_49 (by decide) ?_
        refine x_iald C X 1 0 rfl rfl (j := 0) rfl (vp_in_nI (n := 0) (by omega) (by omega)) (v := (0 : Int32)) (rfl) dX12_findWorth_50 ?_
        refine lv_icmp_ge (tgt := 135) hx hb dX12_findWorth_51 (by decide) (fun _ => ?_) (fun c0 => absurd (by decide) c0)
        refine lv_aload_n hx hb dX12_findWorth_135 rfl (lv_at hl 7 rfl) ?_
        refine lv_dup hx hb dX12_findWorth_136 rfl ?_
        refine x_get (own := RX12) (T := TX12) C X 0 rfl rfl 71 (by decide) k_62_9 rfl rfl (v := .long (0 : Int64)) rfl dX12_findWorth_137 ?_
        refine lv_lload hx hb dX12_findWorth_140 (lv_at hl 4 rfl) ?_
        refine lv_lload hx hb dX12_findWorth_142 (lv_at hl 1 rfl) ?_
        refine lv_lmul hx hb dX12_findWorth_144 ?_
        refine x_eql (show (0 : Int64) * (0 : Int64) = (0 : Int64) from by decide +kernel) ?_
        refine lv_lload hx hb dX12_findWorth_145 (lv_at hl 3 rfl) ?_
        refine lv_lload hx hb dX12_findWorth_147 (lv_at hl 2 rfl) ?_
        refine lv_lmul hx hb dX12_findWorth_149 ?_
        refine x_eql (show (0 : Int64) * (0 : Int64) = (0 : Int64) from by decide +kernel) ?_
        refine lv_lsub hx hb dX12_findWorth_150 ?_
        refine x_eql (show (0 : Int64) - (0 : Int64) = (0 : Int64) from by decide +kernel) ?_
        refine lv_ladd hx hb dX12_findWorth_151 ?_
        refine x_eql (show (0 : Int64) + (0 : Int64) = (0 : Int64) from by decide +kernel) ?_
        refine x_put (own := RX12) (T := TX12) C X 0 rfl rfl 71 (by decide) k_62_9 rfl rfl rfl (ty := .long) (v := .long (0 : Int64)) (by decide +kernel) rfl rfl (Nat.le_of_ble_eq_true rfl) dX12_findWorth_152 (fun H locs X => ?_)
        have X : Wd D A s [((a 0), .inr (12, ((((((((mF a)).set 71 (.long (0 : Int64))).set 72 (.long (0 : Int64))).set 71 (.long (0 : Int64))).set 72 (.long (0 : Int64))).set 71 (.long (0 : Int64))).set 72 (.long (0 : Int64))).set 71 (.long (0 : Int64)))), ((a 1), .inl (cI, 4, .inl (fun _ => (0 : Int32))))] H locs := X
        refine lv_aload_n hx hb dX12_findWorth_155 rfl (lv_at hl 7 rfl) ?_
        refine lv_dup hx hb dX12_findWorth_156 rfl ?_
        refine x_get (own := RX12) (T := TX12) C X 0 rfl rfl 72 (by decide) k_62_8 rfl rfl (v := .long (0 : Int64)) rfl dX12_findWorth_157 ?_
        refine lv_lload hx hb dX12_findWorth_160 (lv_at hl 4 rfl) ?_
        refine lv_lload hx hb dX12_findWorth_162 (lv_at hl 3 rfl) ?_
        refine lv_lmul hx hb dX12_findWorth_164 ?_
        refine x_eql (show (0 : Int64) * (0 : Int64) = (0 : Int64) from by decide +kernel) ?_
        refine lv_ladd hx hb dX12_findWorth_165 ?_
        refine x_eql (show (0 : Int64) + (0 : Int64) = (0 : Int64) from by decide +kernel) ?_
        refine x_put (own := RX12) (T := TX12) C X 0 rfl rfl 72 (by decide) k_62_8 rfl rfl rfl (ty := .long) (v := .long (0 : Int64)) (by decide +kernel) rfl rfl (Nat.le_of_ble_eq_true rfl) dX12_findWorth_166 (fun H locs X => ?_)
        have X : Wd D A s [((a 0), .inr (12, (((((((((mF a)).set 71 (.long (0 : Int64))).set 72 (.long (0 : Int64))).set 71 (.long (0 : Int64))).set 72 (.long (0 : Int64))).set 71 (.long (0 : Int64))).set 72 (.long (0 : Int64))).set 71 (.long (0 : Int64))).set 72 (.long (0 : Int64)))), ((a 1), .inl (cI, 4, .inl (fun _ => (0 : Int32))))] H locs := X
        refine lv_iinc (v := (3 : Int32)) (lv' := [(5, .int (3 : Int32)), (14, .int (0 : Int32)), (12, .long (0 : Int64)), (10, .long (0 : Int64)), (8, .long (0 : Int64)), (6, .long (0 : Int64)), (4, .int (nI (v))), (0, .ref (a 0)), (1, .int hour), (2, .int (nI (j2))), (3, .int (nI (j3)))]) hx hb dX12_findWorth_169 hl (k := 5) rfl (by decide) (by decide) rfl (fun ls hl => ?_)
        refine lv_goto (tgt := 22) hx hb dX12_findWorth_172 (by decide) ?_
        refine lv_iload hx hb dX12_findWorth_22 (lv_at hl 0 rfl) ?_
        refine lv_iconst (v := (4 : Int32)) hx hb dX12_findWorth_24 (by decide) ?_
        refine lv_icmp_ge (tgt := 175) hx hb dX12_findWorth_25 (by decide) (fun c0 => absurd c0 (by decide)) (fun _ => ?_)
        refine lv_lconst (v := (0 : Int64)) hx hb dX12_findWorth_28 (by decide) ?_
        refine lv_lstore (lv' := [(6, .long (0 : Int64)), (5, .int (3 : Int32)), (14, .int (0 : Int32)), (12, .long (0 : Int64)), (10, .long (0 : Int64)), (8, .long (0 : Int64)), (4, .int (nI (v))), (0, .ref (a 0)), (1, .int hour), (2, .int (nI (j2))), (3, .int (nI (j3)))]) hx hb dX12_findWorth_29 hl (by decide) rfl (fun ls hl => ?_)
        refine lv_lconst (v := (0 : Int64)) hx hb dX12_findWorth_31 (by decide) ?_
        refine lv_lstore (lv' := [(8, .long (0 : Int64)), (6, .long (0 : Int64)), (5, .int (3 : Int32)), (14, .int (0 : Int32)), (12, .long (0 : Int64)), (10, .long (0 : Int64)), (4, .int (nI (v))), (0, .ref (a 0)), (1, .int hour), (2, .int (nI (j2))), (3, .int (nI (j3)))]) hx hb dX12_findWorth_32 hl (by decide) rfl (fun ls hl => ?_)
        refine lv_lconst (v := (0 : Int64)) hx hb dX12_findWorth_34 (by decide) ?_
        refine lv_lstore (lv' := [(10, .long (0 : Int64)), (8, .long (0 : Int64)), (6, .long (0 : Int64)), (5, .int (3 : Int32)), (14, .int (0 : Int32)), (12, .long (0 : Int64)), (4, .int (nI (v))), (0, .ref (a 0)), (1, .int hour), (2, .int (nI (j2))), (3, .int (nI (j3)))]) hx hb dX12_findWorth_35 hl (by decide) rfl (fun ls hl => ?_)
        refine lv_lconst (v := (0 : Int64)) hx hb dX12_findWorth_37 (by decide) ?_
        refine lv_lstore (lv' := [(12, .long (0 : Int64)), (10, .long (0 : Int64)), (8, .long (0 : Int64)), (6, .long (0 : Int64)), (5, .int (3 : Int32)), (14, .int (0 : Int32)), (4, .int (nI (v))), (0, .ref (a 0)), (1, .int hour), (2, .int (nI (j2))), (3, .int (nI (j3)))]) hx hb dX12_findWorth_38 hl (by decide) rfl (fun ls hl => ?_)
        refine lv_iconst (v := (0 : Int32)) hx hb dX12_findWorth_40 (by decide) ?_
        refine lv_istore (lv' := [(14, .int (0 : Int32)), (12, .long (0 : Int64)), (10, .long (0 : Int64)), (8, .long (0 : Int64)), (6, .long (0 : Int64)), (5, .int (3 : Int32)), (4, .int (nI (v))), (0, .ref (a 0)), (1, .int hour), (2, .int (nI (j2))), (3, .int (nI (j3)))]) hx hb dX12_findWorth_41 hl (by decide) rfl (fun ls hl => ?_)
        refine lv_iload hx hb dX12_findWorth_43 (lv_at hl 0 rfl) ?_
        refine lv_aload_n hx hb dX12_findWorth_45 rfl (lv_at hl 7 rfl) ?_
        refine x_get (own := RX12) (T := TX12) C X 0 rfl rfl 0 (by decide) k_9_16 rfl rfl (v := .ref (a 1)) rfl dX12_findWorth_46 ?_
        refine lv_iconst (v := (0 : Int32)) hx hb dX12_findWorth_49 (by decide) ?_
        refine x_iald C X 1 0 rfl rfl (j := 0) rfl (vp_in_nI (n := 0) (by omega) (by omega)) (v := (0 : Int32)) (rfl) dX12_findWorth_50 ?_
        refine lv_icmp_ge (tgt := 135) hx hb dX12_findWorth_51 (by decide) (fun _ => ?_) (fun c0 => absurd (by decide) c0)
        refine lv_aload_n hx hb dX12_findWorth_135 rfl (lv_at hl 7 rfl) ?_
        refine lv_dup hx hb dX12_findWorth_136 rfl ?_
        refine x_get (own := RX12) (T := TX12) C X 0 rfl rfl 71 (by decide) k_62_9 rfl rfl (v := .long (0 : Int64)) rfl dX12_findWorth_137 ?_
        refine lv_lload hx hb dX12_findWorth_140 (lv_at hl 4 rfl) ?_
        refine lv_lload hx hb dX12_findWorth_142 (lv_at hl 1 rfl) ?_
        refine lv_lmul hx hb dX12_findWorth_144 ?_
        refine x_eql (show (0 : Int64) * (0 : Int64) = (0 : Int64) from by decide +kernel) ?_
        refine lv_lload hx hb dX12_findWorth_145 (lv_at hl 3 rfl) ?_
        refine lv_lload hx hb dX12_findWorth_147 (lv_at hl 2 rfl) ?_
        refine lv_lmul hx hb dX12_findWorth_149 ?_
        refine x_eql (show (0 : Int64) * (0 : Int64) = (0 : Int64) from by decide +kernel) ?_
        refine lv_lsub hx hb dX12_findWorth_150 ?_
        refine x_eql (show (0 : Int64) - (0 : Int64) = (0 : Int64) from by decide +kernel) ?_
        refine lv_ladd hx hb dX12_findWorth_151 ?_
        refine x_eql (show (0 : Int64) + (0 : Int64) = (0 : Int64) from by decide +kernel) ?_
        refine x_put (own := RX12) (T := TX12) C X 0 rfl rfl 71 (by decide) k_62_9 rfl rfl rfl (ty := .long) (v := .long (0 : Int64)) (by decide +kernel) rfl rfl (Nat.le_of_ble_eq_true rfl) dX12_findWorth_152 (fun H locs X => ?_)
        have X : Wd D A s [((a 0), .inr (12, ((((((((((mF a)).set 71 (.long (0 : Int64))).set 72 (.long (0 : Int64))).set 71 (.long (0 : Int64))).set 72 (.long (0 : Int64))).set 71 (.long (0 : Int64))).set 72 (.long (0 : Int64))).set 71 (.long (0 : Int64))).set 72 (.long (0 : Int64))).set 71 (.long (0 : Int64)))), ((a 1), .inl (cI, 4, .inl (fun _ => (0 : Int32))))] H locs := X
        refine lv_aload_n hx hb dX12_findWorth_155 rfl (lv_at hl 7 rfl) ?_
        refine lv_dup hx hb dX12_findWorth_156 rfl ?_
        refine x_get (own := RX12) (T := TX12) C X 0 rfl rfl 72 (by decide) k_62_8 rfl rfl (v := .long (0 : Int64)) rfl dX12_findWorth_157 ?_
        refine lv_lload hx hb dX12_findWorth_160 (lv_at hl 4 rfl) ?_
        refine lv_lload hx hb dX12_findWorth_162 (lv_at hl 3 rfl) ?_
        refine lv_lmul hx hb dX12_findWorth_164 ?_
        refine x_eql (show (0 : Int64) * (0 : Int64) = (0 : Int64) from by decide +kernel) ?_
        refine lv_ladd hx hb dX12_findWorth_165 ?_
        refine x_eql (show (0 : Int64) + (0 : Int64) = (0 : Int64) from by decide +kernel) ?_
        refine x_put (own := RX12) (T := TX12) C X 0 rfl rfl 72 (by decide) k_62_8 rfl rfl rfl (ty := .long) (v := .long (0 : Int64)) (by decide +kernel) rfl rfl (Nat.le_of_ble_eq_true rfl) dX12_findWorth_166 (fun H locs X => ?_)
        have X : Wd D A s [((a 0), .inr (12, (((((((((((mF a)).set 71 (.long (0 : Int64))).set 72 (.long (0 : Int64))).set 71 (.long (0 : Int64))).set 72 (.long (0 : Int64))).set 71 (.long (0 : Int64))).set 72 (.long (0 : Int64))).set 71 (.long (0 : Int64))).set 72 (.long (0 : Int64))).set 71 (.long (0 : Int64))).set 72 (.long (0 : Int64)))), ((a 1), .inl (cI, 4, .inl (fun _ => (0 : Int32))))] H locs := X
        refine lv_iinc (v := (4 : Int32)) (lv' := [(5, .int (4 : Int32)), (14, .int (0 : Int32)), (12, .long (0 : Int64)), (10, .long (0 : Int64)), (8, .long (0 : Int64)), (6, .long (0 : Int64)), (4, .int (nI (v))), (0, .ref (a 0)), (1, .int hour), (2, .int (nI (j2))), (3, .int (nI (j3)))]) hx hb dX12_findWorth_169 hl (k := 5) rfl (by decide) (by decide) rfl (fun ls hl => ?_)
        refine lv_goto (tgt := 22) hx hb dX12_findWorth_172 (by decide) ?_
        refine lv_iload hx hb dX12_findWorth_22 (lv_at hl 0 rfl) ?_
        refine lv_iconst (v := (4 : Int32)) hx hb dX12_findWorth_24 (by decide) ?_
        refine lv_icmp_ge (tgt := 175) hx hb dX12_findWorth_25 (by decide) (fun _ => ?_) (fun c0 => absurd (by decide) c0)
        refine lv_iinc (v := (nI (v + 1))) (lv' := [(4, .int (nI (v + 1))), (5, .int (4 : Int32)), (14, .int (0 : Int32)), (12, .long (0 : Int64)), (10, .long (0 : Int64)), (8, .long (0 : Int64)), (6, .long (0 : Int64)), (0, .ref (a 0)), (1, .int hour), (2, .int (nI (j2))), (3, .int (nI (j3)))]) hx hb dX12_findWorth_175 hl (k := 6) rfl (nI_add _ 1) (by decide) rfl (fun ls hl => ?_)
        refine lv_goto (tgt := 13) hx hb dX12_findWorth_178 (by decide) ?_
        exact ih13  (v + 1) H locs ls (by omega) (by omega) (x_sub X [0, 1] (by decide) rfl) (lv_sub hl [0, 7, 8, 9, 10] rfl)
  exact L13 (j3 + 1 + 1) (j2) H locs ls (by omega) (by omega) (x_sub X [0, 1] (by decide) rfl) (lv_sub hl [0, 1, 2, 3, 4] rfl)
set_option maxHeartbeats 4000000 in
set_option maxRecDepth 100000 in
theorem cm_worth (l : Launch) (D : va_G) (cI cJ cZ cB : ClassId) (cO : ClassId) (a : Nat → Nat) (p1 : Int32) (p2 : Int32) (p3 : Int32) (p4 : Int32) :
    CL l D [(cI, .int), (cJ, .long), (cZ, .boolean), (cB, .byte), (cO, .object "LuckLinks$World")] yX12_worth cX12_worth 5 ({ frames := 2, cells := 0, slots := 0, locals := 41 } : Room) [.ref (a 0), .int p1, .int p2, .int p3, .int p4] [((a 0), .inr (12, (mF a))), ((a 1), .inl (cI, 4, .inl (fun _ => (0 : Int32))))] (fun (r : Int64) (u : Unit) => (r = (-1000000000 : Int64) ∧ True)) (fun (_ : Unit) => []) := by
  intro sz
  refine body_of (y := yX12_worth) (cc := cX12_worth) (maxL := 5) (ret := (some .long)) (rm := ({ frames := 2, cells := 0, slots := 0, locals := 41 } : Room)) (wc := [((a 0), .inr (12, (mF a))), ((a 1), .inl (cI, 4, .inl (fun _ => (0 : Int32))))]) (tys := [(cI, .int), (cJ, .long), (cZ, .boolean), (cB, .byte), (cO, .object "LuckLinks$World")]) (D := D) (sz := sz) (own := RX12) (av := [.ref (a 0), .int p1, .int p2, .int p3, .int p4]) (Qc := fun A => va_Ql (fun (r : Int64) (u : Unit) => (r = (-1000000000 : Int64) ∧ True)) (fun u t => Aft D A ((fun (_ : Unit) => []) u) t) A) (by decide) rfl (Nat.le_of_ble_eq_true rfl) (fun p e s m below meth c A ls C hr hlk hin X hl => ?_)
  have hx := C.1
  have hb := C.2.1
  have hown := C.2.2.2.1
  have hts := C.2.2.2.2.1
  have hl : lv_has ls 5 [(0, .ref (a 0)), (1, .int p1), (2, .int p2), (3, .int p3), (4, .int p4)] := hl
  show W p l e _ s m _ below meth c s.heap [] 0 0 (MQ below (va_Ql (fun (r : Int64) (u : Unit) => (r = (-1000000000 : Int64) ∧ True)) (fun u t => Aft D A ((fun (_ : Unit) => []) u) t) A) ([.ref (a 0), .int p1, .int p2, .int p3, .int p4] : List Value).toArray s 0 0 A) (F0 m 0 ls [])
  have X : Wd D A s [((a 0), .inr (12, (mF a))), ((a 1), .inl (cI, 4, .inl (fun _ => (0 : Int32))))] s.heap [] := X
  obtain ⟨H, locs, eH, eL⟩ : ∃ H locs, H = s.heap ∧ locs = ([] : List Loc) := ⟨_, _, rfl, rfl⟩
  rw [← eH, ← eL] at X ⊢
  clear eH eL
  refine lv_iload_n hx hb dX12_worth_0 rfl (lv_at hl 1 rfl) ?_
  refine lv_iconst (v := (1 : Int32)) hx hb dX12_worth_1 (by decide) ?_
  refine lv_bipush (v := (11 : Int32)) hx hb dX12_worth_2 (by decide) ?_
  refine x_cS (own := RX12) (wr := [((a 0), .inr (12, (mF a))), ((a 1), .inl (cI, 4, .inl (fun _ => (0 : Int32))))]) (As := [.int p1, .int (1 : Int32), .int (11 : Int32)]) C X hl.1 (c_within l D cI cJ cZ cB cO p1 (1 : Int32) (11 : Int32)) [] [0, 1] ⟨rfl, rfl, by decide, by decide, by decide⟩ k_12_23 k_13_0 k_1_5 k_13_1 (n := 3) (by decide +kernel) ⟨Nat.le_of_ble_eq_true rfl, Nat.le_of_ble_eq_true rfl⟩ rfl rfl (Nat.le_of_ble_eq_true rfl) dX12_worth_4 ⟨Nat.le_of_ble_eq_true rfl, Nat.le_of_ble_eq_true rfl⟩ (fun r_2 u_1 H locs w_3 X => ?_)
  have X : Wd D A s [((a 0), .inr (12, (mF a))), ((a 1), .inl (cI, 4, .inl (fun _ => (0 : Int32))))] H locs := X
  refine W.widen (k := 0) (n := 0) (Nat.le_of_ble_eq_true rfl) (Nat.le_of_ble_eq_true rfl) ?_
  obtain ⟨rfl, fw_3⟩ | ⟨rfl, fw_3⟩ : (r_2 = (1 : Int32) ∧ ((1 : Int) ≤ (p1).toInt ∧ (p1).toInt ≤ (11 : Int))) ∨ (r_2 = (0 : Int32) ∧ ((p1).toInt < (1 : Int) ∨ (11 : Int) < (p1).toInt)) := w_3
  · refine lv_if_eq (tgt := 28) hx hb dX12_worth_7 (by decide) (fun c0 => absurd c0 (by decide)) (fun _ => ?_)
    refine lv_iload_n hx hb dX12_worth_10 rfl (lv_at hl 2 rfl) ?_
    refine lv_iload_n hx hb dX12_worth_11 rfl (lv_at hl 3 rfl) ?_
    refine x_cS (own := RX12) (wr := [((a 0), .inr (12, (mF a))), ((a 1), .inl (cI, 4, .inl (fun _ => (0 : Int32))))]) (As := [.int p2, .int p3]) C X hl.1 (c_areWeeksM l D cI cJ cZ cB cO p2 p3) [] [0, 1] ⟨rfl, rfl, by decide, by decide, by decide⟩ k_42_1 k_42_2 k_1_5 k_42_3 (n := 2) (by decide +kernel) ⟨Nat.le_of_ble_eq_true rfl, Nat.le_of_ble_eq_true rfl⟩ rfl rfl (Nat.le_of_ble_eq_true rfl) dX12_worth_12 ⟨Nat.le_of_ble_eq_true rfl, Nat.le_of_ble_eq_true rfl⟩ (fun r_5 u_4 H locs w_6 X => ?_)
    have X : Wd D A s [((a 0), .inr (12, (mF a))), ((a 1), .inl (cI, 4, .inl (fun _ => (0 : Int32))))] H locs := X
    refine W.widen (k := 0) (n := 0) (Nat.le_of_ble_eq_true rfl) (Nat.le_of_ble_eq_true rfl) ?_
    obtain ⟨rfl, fw_6⟩ | ⟨rfl, fw_6⟩ : (r_5 = (1 : Int32) ∧ (0 ≤ (p2).toInt ∧ (p2).toInt ≤ (p3).toInt ∧ (p3).toInt ≤ 39)) ∨ (r_5 = (0 : Int32) ∧ ((p2).toInt < 0 ∨ (p3).toInt < (p2).toInt ∨ 39 < (p3).toInt)) := w_6
    · refine lv_if_eq (tgt := 28) hx hb dX12_worth_15 (by decide) (fun c0 => absurd c0 (by decide)) (fun _ => ?_)
      refine lv_iload hx hb dX12_worth_18 (lv_at hl 4 rfl) ?_
      refine lv_iconst (v := (0 : Int32)) hx hb dX12_worth_20 (by decide) ?_
      refine lv_iconst (v := (1 : Int32)) hx hb dX12_worth_21 (by decide) ?_
      refine x_cS (own := RX12) (wr := [((a 0), .inr (12, (mF a))), ((a 1), .inl (cI, 4, .inl (fun _ => (0 : Int32))))]) (As := [.int p4, .int (0 : Int32), .int (1 : Int32)]) C X hl.1 (c_within l D cI cJ cZ cB cO p4 (0 : Int32) (1 : Int32)) [] [0, 1] ⟨rfl, rfl, by decide, by decide, by decide⟩ k_12_23 k_13_0 k_1_5 k_13_1 (n := 3) (by decide +kernel) ⟨Nat.le_of_ble_eq_true rfl, Nat.le_of_ble_eq_true rfl⟩ rfl rfl (Nat.le_of_ble_eq_true rfl) dX12_worth_22 ⟨Nat.le_of_ble_eq_true rfl, Nat.le_of_ble_eq_true rfl⟩ (fun r_8 u_7 H locs w_9 X => ?_)
      have X : Wd D A s [((a 0), .inr (12, (mF a))), ((a 1), .inl (cI, 4, .inl (fun _ => (0 : Int32))))] H locs := X
      refine W.widen (k := 0) (n := 0) (Nat.le_of_ble_eq_true rfl) (Nat.le_of_ble_eq_true rfl) ?_
      obtain ⟨rfl, fw_9⟩ | ⟨rfl, fw_9⟩ : (r_8 = (1 : Int32) ∧ ((0 : Int) ≤ (p4).toInt ∧ (p4).toInt ≤ (1 : Int))) ∨ (r_8 = (0 : Int32) ∧ ((p4).toInt < (0 : Int) ∨ (1 : Int) < (p4).toInt)) := w_9
      · refine lv_if_ne (tgt := 32) hx hb dX12_worth_25 (by decide) (fun _ => ?_) (fun c0 => absurd c0 (by decide))
        obtain ⟨j2, hj2, hqj2⟩ := i_ex (x := p2) 40 (by omega) (by omega)
        have ej2 : p2.toInt = (j2 : Int) := by rw [hqj2]; exact nI_toInt (by omega)
        rw [hqj2] at hl
        have hl : lv_has ls 5 [(0, .ref (a 0)), (1, .int p1), (2, .int (nI (j2))), (3, .int p3), (4, .int p4)] := hl
        obtain ⟨j3, hj3, hqj3⟩ := i_ex (x := p3) 40 (by omega) (by omega)
        have ej3 : p3.toInt = (j3 : Int) := by rw [hqj3]; exact nI_toInt (by omega)
        rw [hqj3] at hl
        have hl : lv_has ls 5 [(0, .ref (a 0)), (1, .int p1), (2, .int (nI (j2))), (3, .int (nI (j3))), (4, .int p4)] := hl
        refine lv_aload_n hx hb dX12_worth_32 rfl (lv_at hl 0 rfl) ?_
        refine lv_iload_n hx hb dX12_worth_33 rfl (lv_at hl 1 rfl) ?_
        refine lv_iload_n hx hb dX12_worth_34 rfl (lv_at hl 2 rfl) ?_
        refine lv_iload_n hx hb dX12_worth_35 rfl (lv_at hl 3 rfl) ?_
        refine x_cVv (own := RX12) (wr := []) (As := [.int p1, .int (nI (j2)), .int (nI (j3))]) C X hl.1 (cm_findWorth l D cI cJ cZ cB cO a p1 j2 j3 (by omega) (by omega)) [0, 1] [] ⟨rfl, rfl, by decide, by decide, by decide⟩ (qb := 0) rfl rfl k_62_10 k_62_11 k_62_12 k_1_5 k_62_13 (n := 3) (by decide +kernel) ⟨Nat.le_of_ble_eq_true rfl, Nat.le_of_ble_eq_true rfl⟩ rfl rfl (Nat.le_of_ble_eq_true rfl) dX12_worth_36 ⟨Nat.le_of_ble_eq_true rfl, Nat.le_of_ble_eq_true rfl⟩ (fun u_10 H locs w_12 X => ?_)
        have X : Wd D A s [((a 0), .inr (12, (mF a))), ((a 1), .inl (cI, 4, .inl (fun _ => (0 : Int32))))] H locs := X
        refine W.widen (k := 0) (n := 0) (Nat.le_of_ble_eq_true rfl) (Nat.le_of_ble_eq_true rfl) ?_
        refine lv_aload_n hx hb dX12_worth_39 rfl (lv_at hl 0 rfl) ?_
        refine x_get (own := RX12) (T := TX12) C X 0 rfl rfl 72 (by decide) k_62_8 rfl rfl (v := .long (0 : Int64)) rfl dX12_worth_40 ?_
        refine lv_lconst (v := (0 : Int64)) hx hb dX12_worth_43 (by decide) ?_
        refine W.lcmp hx hb dX12_worth_44 ?_
        refine x_eqi (show lg_cmp (0 : Int64) (0 : Int64) = (0 : Int32) by decide) ?_
        refine lv_if_ne (tgt := 54) hx hb dX12_worth_45 (by decide) (fun c0 => absurd (by decide) c0) (fun _ => ?_)
        refine lv_ldc2 (own := RX12) (v := (-1000000000 : Int64)) hx hb hown (hts _ k_62_7) dX12_worth_48 ?_
        refine lv_goto (tgt := 67) hx hb dX12_worth_51 (by decide) ?_
        exact x_lret C X hr hlk (v := (-1000000000 : Int64)) (()) [] (by decide) rfl (⟨rfl, trivial⟩) (Nat.le_of_ble_eq_true rfl) (Nat.le_of_ble_eq_true rfl) dX12_worth_67
      · refine lv_if_ne (tgt := 32) hx hb dX12_worth_25 (by decide) (fun c0 => absurd (by decide) c0) (fun _ => ?_)
        refine lv_ldc2 (own := RX12) (v := (-1000000000 : Int64)) hx hb hown (hts _ k_62_7) dX12_worth_28 ?_
        exact x_lret C X hr hlk (v := (-1000000000 : Int64)) (()) [] (by decide) rfl (⟨rfl, trivial⟩) (Nat.le_of_ble_eq_true rfl) (Nat.le_of_ble_eq_true rfl) dX12_worth_31
    · refine lv_if_eq (tgt := 28) hx hb dX12_worth_15 (by decide) (fun _ => ?_) (fun c0 => absurd (by decide) c0)
      refine lv_ldc2 (own := RX12) (v := (-1000000000 : Int64)) hx hb hown (hts _ k_62_7) dX12_worth_28 ?_
      exact x_lret C X hr hlk (v := (-1000000000 : Int64)) (()) [] (by decide) rfl (⟨rfl, trivial⟩) (Nat.le_of_ble_eq_true rfl) (Nat.le_of_ble_eq_true rfl) dX12_worth_31
  · refine lv_if_eq (tgt := 28) hx hb dX12_worth_7 (by decide) (fun _ => ?_) (fun c0 => absurd (by decide) c0)
    refine lv_ldc2 (own := RX12) (v := (-1000000000 : Int64)) hx hb hown (hts _ k_62_7) dX12_worth_28 ?_
    exact x_lret C X hr hlk (v := (-1000000000 : Int64)) (()) [] (by decide) rfl (⟨rfl, trivial⟩) (Nat.le_of_ble_eq_true rfl) (Nat.le_of_ble_eq_true rfl) dX12_worth_31
set_option maxHeartbeats 4000000 in
set_option maxRecDepth 100000 in
theorem cm_findHalves (l : Launch) (D : va_G) (cI cJ cZ cB : ClassId) (cO : ClassId) (a : Nat → Nat) (part : Int32) (i : Nat) (h : Nat) (j : Nat) (hi : i ≤ j) (hj : j < 40) :
    CV l D [(cI, .int), (cJ, .long), (cZ, .boolean), (cB, .byte), (cO, .object "LuckLinks$World")] yX12_findHalves cX12_findHalves 9 ({ frames := 0, cells := 0, slots := 0, locals := 0 } : Room) [.ref (a 0), .int part, .int (nI (i)), .int (nI (h)), .int (nI (j))] [((a 0), .inr (12, (mF a))), ((a 1), .inl (cI, 4, .inl (fun _ => (0 : Int32)))), ((a 49), .inl (cJ, 40, .inr (.inl (fun _ => (0 : Int64))))), ((a 50), .inl (cI, 40, .inl (fun _ => (0 : Int32))))] (fun (u : Unit) => (True)) (fun (_ : Unit) => [((a 0), .inr (12, (mF a))), ((a 1), .inl (cI, 4, .inl (fun _ => (0 : Int32)))), ((a 49), .inl (cJ, 40, .inr (.inl (fun _ => (0 : Int64))))), ((a 50), .inl (cI, 40, .inl (fun _ => (0 : Int32))))]) := by
  intro sz
  refine body_of (y := yX12_findHalves) (cc := cX12_findHalves) (maxL := 9) (ret := none) (rm := ({ frames := 0, cells := 0, slots := 0, locals := 0 } : Room)) (wc := [((a 0), .inr (12, (mF a))), ((a 1), .inl (cI, 4, .inl (fun _ => (0 : Int32)))), ((a 49), .inl (cJ, 40, .inr (.inl (fun _ => (0 : Int64))))), ((a 50), .inl (cI, 40, .inl (fun _ => (0 : Int32))))]) (tys := [(cI, .int), (cJ, .long), (cZ, .boolean), (cB, .byte), (cO, .object "LuckLinks$World")]) (D := D) (sz := sz) (own := RX12) (av := [.ref (a 0), .int part, .int (nI (i)), .int (nI (h)), .int (nI (j))]) (Qc := fun A => va_Qv (fun (u : Unit) => (True)) (fun u t => Aft D A ((fun (_ : Unit) => [((a 0), .inr (12, (mF a))), ((a 1), .inl (cI, 4, .inl (fun _ => (0 : Int32)))), ((a 49), .inl (cJ, 40, .inr (.inl (fun _ => (0 : Int64))))), ((a 50), .inl (cI, 40, .inl (fun _ => (0 : Int32))))]) u) t) A) (by decide) rfl (Nat.le_of_ble_eq_true rfl) (fun p e s m below meth c A ls C hr hlk hin X hl => ?_)
  have hx := C.1
  have hb := C.2.1
  have hown := C.2.2.2.1
  have hts := C.2.2.2.2.1
  have hl : lv_has ls 9 [(0, .ref (a 0)), (1, .int part), (2, .int (nI (i))), (3, .int (nI (h))), (4, .int (nI (j)))] := hl
  show W p l e _ s m _ below meth c s.heap [] 0 0 (MQ below (va_Qv (fun (u : Unit) => (True)) (fun u t => Aft D A ((fun (_ : Unit) => [((a 0), .inr (12, (mF a))), ((a 1), .inl (cI, 4, .inl (fun _ => (0 : Int32)))), ((a 49), .inl (cJ, 40, .inr (.inl (fun _ => (0 : Int64))))), ((a 50), .inl (cI, 40, .inl (fun _ => (0 : Int32))))]) u) t) A) ([.ref (a 0), .int part, .int (nI (i)), .int (nI (h)), .int (nI (j))] : List Value).toArray s 0 0 A) (F0 m 0 ls [])
  have X : Wd D A s [((a 0), .inr (12, (mF a))), ((a 1), .inl (cI, 4, .inl (fun _ => (0 : Int32)))), ((a 49), .inl (cJ, 40, .inr (.inl (fun _ => (0 : Int64))))), ((a 50), .inl (cI, 40, .inl (fun _ => (0 : Int32))))] s.heap [] := X
  obtain ⟨H, locs, eH, eL⟩ : ∃ H locs, H = s.heap ∧ locs = ([] : List Loc) := ⟨_, _, rfl, rfl⟩
  rw [← eH, ← eL] at X ⊢
  clear eH eL
  refine lv_iconst (v := (0 : Int32)) hx hb dX12_findHalves_0 (by decide) ?_
  refine lv_istore (lv' := [(5, .int (0 : Int32)), (0, .ref (a 0)), (1, .int part), (2, .int (nI (i))), (3, .int (nI (h))), (4, .int (nI (j)))]) hx hb dX12_findHalves_1 hl (by decide) rfl (fun ls hl => ?_)
  have L3 : ∀ (n : Nat) (v : Nat) (H : Heap) (locs : List Loc) (ls : Array Slot), (g1 : v ≤ 40) → 40 < v + n → Wd D A s [((a 0), .inr (12, (mF a))), ((a 1), .inl (cI, 4, .inl (fun _ => (0 : Int32)))), ((a 49), .inl (cJ, 40, .inr (.inl (fun _ => (0 : Int64))))), ((a 50), .inl (cI, 40, .inl (fun _ => (0 : Int32))))] H locs → lv_has ls 9 [(5, .int (nI (v))), (0, .ref (a 0)), (1, .int part), (2, .int (nI (i))), (3, .int (nI (h))), (4, .int (nI (j)))] → W p l e ({ frames := 0, cells := 0, slots := 0, locals := 0 } : Room) s m ([.ref (a 0), .int part, .int (nI (i)), .int (nI (h)), .int (nI (j))] : List Value).toArray below meth c H locs 0 0 (MQ below (va_Qv (fun (u : Unit) => (True)) (fun u t => Aft D A ((fun (_ : Unit) => [((a 0), .inr (12, (mF a))), ((a 1), .inl (cI, 4, .inl (fun _ => (0 : Int32)))), ((a 49), .inl (cJ, 40, .inr (.inl (fun _ => (0 : Int64))))), ((a 50), .inl (cI, 40, .inl (fun _ => (0 : Int32))))]) u) t) A) ([.ref (a 0), .int part, .int (nI (i)), .int (nI (h)), .int (nI (j))] : List Value).toArray s 0 0 A) (F0 m 3 ls []) := by
    intro n
    induction n with
    | zero => intro v H locs ls g1 hn; exact absurd hn (by omega)
    | succ n ih =>
      intro v H locs ls g1 hn X hl
      have ih3 := ih
      refine lv_iload hx hb dX12_findHalves_3 (lv_at hl 0 rfl) ?_
      refine lv_bipush (v := (40 : Int32)) hx hb dX12_findHalves_5 (by decide) ?_
      refine lv_icmp_ge (tgt := 32) hx hb dX12_findHalves_7 (by decide) (fun c_1 => ?_) (fun c_1 => ?_)
      · have fc_1 : (40 : Int) ≤ ((v : Nat) : Int) := (by have h9 := i_le c_1; simp only [nI_toInt (n := v) (by omega)] at h9; exact h9)
        refine lv_iload_n hx hb dX12_findHalves_32 rfl (lv_at hl 3 rfl) ?_
        refine lv_istore (lv' := [(5, .int (nI (i))), (0, .ref (a 0)), (1, .int part), (2, .int (nI (i))), (3, .int (nI (h))), (4, .int (nI (j)))]) hx hb dX12_findHalves_33 hl (by decide) rfl (fun ls hl => ?_)
        have L35 : ∀ (n : Nat) (v : Nat) (H : Heap) (locs : List Loc) (ls : Array Slot), (g1 : v ≤ j + 1) → j + 1 < v + n → Wd D A s [((a 0), .inr (12, (mF a))), ((a 1), .inl (cI, 4, .inl (fun _ => (0 : Int32)))), ((a 49), .inl (cJ, 40, .inr (.inl (fun _ => (0 : Int64))))), ((a 50), .inl (cI, 40, .inl (fun _ => (0 : Int32))))] H locs → lv_has ls 9 [(5, .int (nI (v))), (0, .ref (a 0)), (1, .int part), (2, .int (nI (i))), (3, .int (nI (h))), (4, .int (nI (j)))] → W p l e ({ frames := 0, cells := 0, slots := 0, locals := 0 } : Room) s m ([.ref (a 0), .int part, .int (nI (i)), .int (nI (h)), .int (nI (j))] : List Value).toArray below meth c H locs 0 0 (MQ below (va_Qv (fun (u : Unit) => (True)) (fun u t => Aft D A ((fun (_ : Unit) => [((a 0), .inr (12, (mF a))), ((a 1), .inl (cI, 4, .inl (fun _ => (0 : Int32)))), ((a 49), .inl (cJ, 40, .inr (.inl (fun _ => (0 : Int64))))), ((a 50), .inl (cI, 40, .inl (fun _ => (0 : Int32))))]) u) t) A) ([.ref (a 0), .int part, .int (nI (i)), .int (nI (h)), .int (nI (j))] : List Value).toArray s 0 0 A) (F0 m 35 ls []) := by
          intro n
          induction n with
          | zero => intro v H locs ls g1 hn; exact absurd hn (by omega)
          | succ n ih =>
            intro v H locs ls g1 hn X hl
            have ih35 := ih
            refine lv_iload hx hb dX12_findHalves_35 (lv_at hl 0 rfl) ?_
            refine lv_iload hx hb dX12_findHalves_37 (lv_at hl 5 rfl) ?_
            refine lv_icmp_gt (tgt := 153) hx hb dX12_findHalves_39 (by decide) (fun c_2 => ?_) (fun c_2 => ?_)
            · have fc_2 : ((j : Nat) : Int) < ((v : Nat) : Int) := (by have h9 := i_lt c_2; simp only [nI_toInt (n := j) (by omega), nI_toInt (n := v) (by omega)] at h9; exact h9)
              exact x_vret C X hr hlk (()) [0, 1, 2, 3] (by decide) rfl (trivial) (Nat.le_of_ble_eq_true rfl) (Nat.le_of_ble_eq_true rfl) dX12_findHalves_153
            · have fc_2 : ((v : Nat) : Int) ≤ ((j : Nat) : Int) := (by have h9 := i_nlt c_2; simp only [nI_toInt (n := j) (by omega), nI_toInt (n := v) (by omega)] at h9; exact h9)
              refine lv_iconst (v := (0 : Int32)) hx hb dX12_findHalves_42 (by decide) ?_
              refine lv_istore (lv' := [(6, .int (0 : Int32)), (5, .int (nI (v))), (0, .ref (a 0)), (1, .int part), (2, .int (nI (i))), (3, .int (nI (h))), (4, .int (nI (j)))]) hx hb dX12_findHalves_43 hl (by decide) rfl (fun ls hl => ?_)
              refine lv_iload hx hb dX12_findHalves_45 (lv_at hl 0 rfl) ?_
              refine lv_aload_n hx hb dX12_findHalves_47 rfl (lv_at hl 2 rfl) ?_
              refine x_get (own := RX12) (T := TX12) C X 0 rfl rfl 0 (by decide) k_9_16 rfl rfl (v := .ref (a 1)) rfl dX12_findHalves_48 ?_
              refine lv_iconst (v := (0 : Int32)) hx hb dX12_findHalves_51 (by decide) ?_
              refine x_iald C X 1 0 rfl rfl (j := 0) rfl (vp_in_nI (n := 0) (by omega) (by omega)) (v := (0 : Int32)) (rfl) dX12_findHalves_52 ?_
              refine lv_icmp_ge (tgt := 147) hx hb dX12_findHalves_53 (by decide) (fun _ => ?_) (fun c0 => absurd (by decide) c0)
              refine lv_iinc (v := (nI (v + 1))) (lv' := [(5, .int (nI (v + 1))), (6, .int (0 : Int32)), (0, .ref (a 0)), (1, .int part), (2, .int (nI (i))), (3, .int (nI (h))), (4, .int (nI (j)))]) hx hb dX12_findHalves_147 hl (k := 1) rfl (nI_add _ 1) (by decide) rfl (fun ls hl => ?_)
              refine lv_goto (tgt := 35) hx hb dX12_findHalves_150 (by decide) ?_
              exact ih35  (v + 1) H locs ls (by omega) (by omega) (x_sub X [0, 1, 2, 3] (by decide) rfl) (lv_sub hl [0, 2, 3, 4, 5, 6] rfl)
        exact L35 (j + 1 + 1) (i) H locs ls (by omega) (by omega) (x_sub X [0, 1, 2, 3] (by decide) rfl) (lv_sub hl [0, 1, 2, 3, 4, 5] rfl)
      · have fc_1 : ((v : Nat) : Int) < (40 : Int) := (by have h9 := i_nle c_1; simp only [nI_toInt (n := v) (by omega)] at h9; exact h9)
        refine lv_aload_n hx hb dX12_findHalves_10 rfl (lv_at hl 1 rfl) ?_
        refine x_get (own := RX12) (T := TX12) C X 0 rfl rfl 68 (by decide) k_11_18 rfl rfl (v := .ref (a 49)) rfl dX12_findHalves_11 ?_
        refine lv_iload hx hb dX12_findHalves_14 (lv_at hl 0 rfl) ?_
        refine lv_lconst (v := (0 : Int64)) hx hb dX12_findHalves_16 (by decide) ?_
        refine x_last C X 2 1 rfl rfl (j := v) (nI_clamp (by omega)) (vp_in_nI (by omega) (by omega)) dX12_findHalves_17 (fun H locs X => ?_)
        have X := x_cng X 2 rfl (arr_eql _ _ (g := fun _ => (0 : Int64)) (fun j h => by first | rfl | (unfold vp_updL; split <;> rfl)))
        have X : Wd D A s [((a 0), .inr (12, (mF a))), ((a 1), .inl (cI, 4, .inl (fun _ => (0 : Int32)))), ((a 49), .inl (cJ, 40, .inr (.inl (fun _ => (0 : Int64))))), ((a 50), .inl (cI, 40, .inl (fun _ => (0 : Int32))))] H locs := X
        refine lv_aload_n hx hb dX12_findHalves_18 rfl (lv_at hl 1 rfl) ?_
        refine x_get (own := RX12) (T := TX12) C X 0 rfl rfl 69 (by decide) k_11_19 rfl rfl (v := .ref (a 50)) rfl dX12_findHalves_19 ?_
        refine lv_iload hx hb dX12_findHalves_22 (lv_at hl 0 rfl) ?_
        refine lv_iconst (v := (0 : Int32)) hx hb dX12_findHalves_24 (by decide) ?_
        refine x_iast C X 3 0 rfl rfl (j := v) (nI_clamp (by omega)) (vp_in_nI (by omega) (by omega)) dX12_findHalves_25 (fun H locs X => ?_)
        have X := x_cng X 3 rfl (arr_eq _ _ (g := fun _ => (0 : Int32)) (fun j h => by first | rfl | (unfold upd; split <;> rfl)))
        have X : Wd D A s [((a 0), .inr (12, (mF a))), ((a 1), .inl (cI, 4, .inl (fun _ => (0 : Int32)))), ((a 49), .inl (cJ, 40, .inr (.inl (fun _ => (0 : Int64))))), ((a 50), .inl (cI, 40, .inl (fun _ => (0 : Int32))))] H locs := X
        refine lv_iinc (v := (nI (v + 1))) (lv' := [(5, .int (nI (v + 1))), (0, .ref (a 0)), (1, .int part), (2, .int (nI (i))), (3, .int (nI (h))), (4, .int (nI (j)))]) hx hb dX12_findHalves_26 hl (k := 0) rfl (nI_add _ 1) (by decide) rfl (fun ls hl => ?_)
        refine lv_goto (tgt := 3) hx hb dX12_findHalves_29 (by decide) ?_
        exact ih3  (v + 1) H locs ls (by omega) (by omega) (x_sub X [0, 1, 2, 3] (by decide) rfl) (lv_sub hl [0, 1, 2, 3, 4, 5] rfl)
  exact L3 (40 + 1) (0) H locs ls (by omega) (by omega) (x_sub X [0, 1, 2, 3] (by decide) rfl) (lv_sub hl [0, 1, 2, 3, 4, 5] rfl)
set_option maxHeartbeats 4000000 in
set_option maxRecDepth 100000 in
theorem cm_lastsBy (l : Launch) (D : va_G) (cI cJ cZ cB : ClassId) (cO : ClassId) (a : Nat → Nat) (part : Int32) (i : Nat) (h : Nat) (j : Nat) (what : Int32) (hi : i ≤ j) (hj : j < 40) :
    CI l D [(cI, .int), (cJ, .long), (cZ, .boolean), (cB, .byte), (cO, .object "LuckLinks$World")] yX12_lastsBy cX12_lastsBy 12 (some .int) ({ frames := 1, cells := 0, slots := 0, locals := 28 } : Room) [.ref (a 0), .int part, .int (nI (i)), .int (nI (h)), .int (nI (j)), .int what] [((a 0), .inr (12, (mF a))), ((a 1), .inl (cI, 4, .inl (fun _ => (0 : Int32)))), ((a 49), .inl (cJ, 40, .inr (.inl (fun _ => (0 : Int64))))), ((a 50), .inl (cI, 40, .inl (fun _ => (0 : Int32))))] (fun (r : Int32) (u : Unit) => (r = (0 : Int32) ∧ True)) (fun (_ : Unit) => [((a 0), .inr (12, (mF a))), ((a 1), .inl (cI, 4, .inl (fun _ => (0 : Int32)))), ((a 49), .inl (cJ, 40, .inr (.inl (fun _ => (0 : Int64))))), ((a 50), .inl (cI, 40, .inl (fun _ => (0 : Int32))))]) := by
  intro sz
  refine body_of (y := yX12_lastsBy) (cc := cX12_lastsBy) (maxL := 12) (ret := (some .int)) (rm := ({ frames := 1, cells := 0, slots := 0, locals := 28 } : Room)) (wc := [((a 0), .inr (12, (mF a))), ((a 1), .inl (cI, 4, .inl (fun _ => (0 : Int32)))), ((a 49), .inl (cJ, 40, .inr (.inl (fun _ => (0 : Int64))))), ((a 50), .inl (cI, 40, .inl (fun _ => (0 : Int32))))]) (tys := [(cI, .int), (cJ, .long), (cZ, .boolean), (cB, .byte), (cO, .object "LuckLinks$World")]) (D := D) (sz := sz) (own := RX12) (av := [.ref (a 0), .int part, .int (nI (i)), .int (nI (h)), .int (nI (j)), .int what]) (Qc := fun A => va_Qi (fun (r : Int32) (u : Unit) => (r = (0 : Int32) ∧ True)) (fun u t => Aft D A ((fun (_ : Unit) => [((a 0), .inr (12, (mF a))), ((a 1), .inl (cI, 4, .inl (fun _ => (0 : Int32)))), ((a 49), .inl (cJ, 40, .inr (.inl (fun _ => (0 : Int64))))), ((a 50), .inl (cI, 40, .inl (fun _ => (0 : Int32))))]) u) t) A) (by decide) rfl (Nat.le_of_ble_eq_true rfl) (fun p e s m below meth c A ls C hr hlk hin X hl => ?_)
  have hx := C.1
  have hb := C.2.1
  have hown := C.2.2.2.1
  have hts := C.2.2.2.2.1
  have hl : lv_has ls 12 [(0, .ref (a 0)), (1, .int part), (2, .int (nI (i))), (3, .int (nI (h))), (4, .int (nI (j))), (5, .int what)] := hl
  show W p l e _ s m _ below meth c s.heap [] 0 0 (MQ below (va_Qi (fun (r : Int32) (u : Unit) => (r = (0 : Int32) ∧ True)) (fun u t => Aft D A ((fun (_ : Unit) => [((a 0), .inr (12, (mF a))), ((a 1), .inl (cI, 4, .inl (fun _ => (0 : Int32)))), ((a 49), .inl (cJ, 40, .inr (.inl (fun _ => (0 : Int64))))), ((a 50), .inl (cI, 40, .inl (fun _ => (0 : Int32))))]) u) t) A) ([.ref (a 0), .int part, .int (nI (i)), .int (nI (h)), .int (nI (j)), .int what] : List Value).toArray s 0 0 A) (F0 m 0 ls [])
  have X : Wd D A s [((a 0), .inr (12, (mF a))), ((a 1), .inl (cI, 4, .inl (fun _ => (0 : Int32)))), ((a 49), .inl (cJ, 40, .inr (.inl (fun _ => (0 : Int64))))), ((a 50), .inl (cI, 40, .inl (fun _ => (0 : Int32))))] s.heap [] := X
  obtain ⟨H, locs, eH, eL⟩ : ∃ H locs, H = s.heap ∧ locs = ([] : List Loc) := ⟨_, _, rfl, rfl⟩
  rw [← eH, ← eL] at X ⊢
  clear eH eL
  refine lv_aload_n hx hb dX12_lastsBy_0 rfl (lv_at hl 0 rfl) ?_
  refine lv_iload_n hx hb dX12_lastsBy_1 rfl (lv_at hl 1 rfl) ?_
  refine lv_iload_n hx hb dX12_lastsBy_2 rfl (lv_at hl 2 rfl) ?_
  refine lv_iload_n hx hb dX12_lastsBy_3 rfl (lv_at hl 3 rfl) ?_
  refine lv_iload hx hb dX12_lastsBy_4 (lv_at hl 4 rfl) ?_
  refine x_cVv (own := RX12) (wr := []) (As := [.int part, .int (nI (i)), .int (nI (h)), .int (nI (j))]) C X hl.1 (cm_findHalves l D cI cJ cZ cB cO a part i h j hi hj) [0, 1, 2, 3] [] ⟨rfl, rfl, by decide, by decide, by decide⟩ (qb := 0) rfl rfl k_57_1 k_57_2 k_57_3 k_1_5 k_57_4 (n := 4) (by decide +kernel) ⟨Nat.le_of_ble_eq_true rfl, Nat.le_of_ble_eq_true rfl⟩ rfl rfl (Nat.le_of_ble_eq_true rfl) dX12_lastsBy_6 ⟨Nat.le_of_ble_eq_true rfl, Nat.le_of_ble_eq_true rfl⟩ (fun u_1 H locs w_3 X => ?_)
  have X : Wd D A s [((a 0), .inr (12, (mF a))), ((a 1), .inl (cI, 4, .inl (fun _ => (0 : Int32)))), ((a 49), .inl (cJ, 40, .inr (.inl (fun _ => (0 : Int64))))), ((a 50), .inl (cI, 40, .inl (fun _ => (0 : Int32))))] H locs := X
  refine W.widen (k := 0) (n := 0) (Nat.le_of_ble_eq_true rfl) (Nat.le_of_ble_eq_true rfl) ?_
  refine lv_iconst (v := (0 : Int32)) hx hb dX12_lastsBy_9 (by decide) ?_
  refine lv_istore (lv' := [(6, .int (0 : Int32)), (0, .ref (a 0)), (1, .int part), (2, .int (nI (i))), (3, .int (nI (h))), (4, .int (nI (j))), (5, .int what)]) hx hb dX12_lastsBy_10 hl (by decide) rfl (fun ls hl => ?_)
  refine lv_iconst (v := (0 : Int32)) hx hb dX12_lastsBy_12 (by decide) ?_
  refine lv_istore (lv' := [(7, .int (0 : Int32)), (6, .int (0 : Int32)), (0, .ref (a 0)), (1, .int part), (2, .int (nI (i))), (3, .int (nI (h))), (4, .int (nI (j))), (5, .int what)]) hx hb dX12_lastsBy_13 hl (by decide) rfl (fun ls hl => ?_)
  refine lv_iconst (v := (0 : Int32)) hx hb dX12_lastsBy_15 (by decide) ?_
  refine lv_istore (lv' := [(8, .int (0 : Int32)), (7, .int (0 : Int32)), (6, .int (0 : Int32)), (0, .ref (a 0)), (1, .int part), (2, .int (nI (i))), (3, .int (nI (h))), (4, .int (nI (j))), (5, .int what)]) hx hb dX12_lastsBy_16 hl (by decide) rfl (fun ls hl => ?_)
  refine lv_iconst (v := (0 : Int32)) hx hb dX12_lastsBy_18 (by decide) ?_
  refine lv_istore (lv' := [(9, .int (0 : Int32)), (8, .int (0 : Int32)), (7, .int (0 : Int32)), (6, .int (0 : Int32)), (0, .ref (a 0)), (1, .int part), (2, .int (nI (i))), (3, .int (nI (h))), (4, .int (nI (j))), (5, .int what)]) hx hb dX12_lastsBy_19 hl (by decide) rfl (fun ls hl => ?_)
  refine lv_iload hx hb dX12_lastsBy_21 (lv_at hl 0 rfl) ?_
  refine lv_aload_n hx hb dX12_lastsBy_23 rfl (lv_at hl 4 rfl) ?_
  refine x_get (own := RX12) (T := TX12) C X 0 rfl rfl 0 (by decide) k_9_16 rfl rfl (v := .ref (a 1)) rfl dX12_lastsBy_24 ?_
  refine lv_iconst (v := (0 : Int32)) hx hb dX12_lastsBy_27 (by decide) ?_
  refine x_iald C X 1 0 rfl rfl (j := 0) rfl (vp_in_nI (n := 0) (by omega) (by omega)) (v := (0 : Int32)) (rfl) dX12_lastsBy_28 ?_
  refine lv_icmp_ge (tgt := 164) hx hb dX12_lastsBy_29 (by decide) (fun _ => ?_) (fun c0 => absurd (by decide) c0)
  refine lv_iload hx hb dX12_lastsBy_164 (lv_at hl 9 rfl) ?_
  refine lv_if_ne (tgt := 174) hx hb dX12_lastsBy_166 (by decide) (fun c_4 => ?_) (fun c_4 => ?_)
  · have fc_4 : (what).toInt ≠ (0 : Int) := i_ne c_4
    refine lv_iload hx hb dX12_lastsBy_174 (lv_at hl 9 rfl) ?_
    refine lv_iconst (v := (1 : Int32)) hx hb dX12_lastsBy_176 (by decide) ?_
    refine lv_icmp_ne (tgt := 185) hx hb dX12_lastsBy_177 (by decide) (fun c_5 => ?_) (fun c_5 => ?_)
    · have fc_5 : (what).toInt ≠ (1 : Int) := i_ne c_5
      refine lv_iload hx hb dX12_lastsBy_185 (lv_at hl 9 rfl) ?_
      refine lv_iconst (v := (2 : Int32)) hx hb dX12_lastsBy_187 (by decide) ?_
      refine lv_icmp_ne (tgt := 196) hx hb dX12_lastsBy_188 (by decide) (fun c_6 => ?_) (fun c_6 => ?_)
      · have fc_6 : (what).toInt ≠ (2 : Int) := i_ne c_6
        refine lv_iload hx hb dX12_lastsBy_196 (lv_at hl 3 rfl) ?_
        refine lv_iload hx hb dX12_lastsBy_198 (lv_at hl 2 rfl) ?_
        refine lv_isub hx hb dX12_lastsBy_200 ?_
        refine x_eqi (show (0 : Int32) - (0 : Int32) = (0 : Int32) from by decide +kernel) ?_
        exact x_iret C X hr hlk (v := (0 : Int32)) (by first | rfl | decide) (()) [0, 1, 2, 3] (by decide) rfl (⟨rfl, trivial⟩) (Nat.le_of_ble_eq_true rfl) (Nat.le_of_ble_eq_true rfl) dX12_lastsBy_201
      · have fc_6 : (what).toInt = (2 : Int) := i_eq c_6
        refine lv_iload hx hb dX12_lastsBy_191 (lv_at hl 1 rfl) ?_
        refine lv_goto (tgt := 201) hx hb dX12_lastsBy_193 (by decide) ?_
        exact x_iret C X hr hlk (v := (0 : Int32)) (by first | rfl | decide) (()) [0, 1, 2, 3] (by decide) rfl (⟨rfl, trivial⟩) (Nat.le_of_ble_eq_true rfl) (Nat.le_of_ble_eq_true rfl) dX12_lastsBy_201
    · have fc_5 : (what).toInt = (1 : Int) := i_eq c_5
      refine lv_iload hx hb dX12_lastsBy_180 (lv_at hl 2 rfl) ?_
      refine lv_goto (tgt := 201) hx hb dX12_lastsBy_182 (by decide) ?_
      exact x_iret C X hr hlk (v := (0 : Int32)) (by first | rfl | decide) (()) [0, 1, 2, 3] (by decide) rfl (⟨rfl, trivial⟩) (Nat.le_of_ble_eq_true rfl) (Nat.le_of_ble_eq_true rfl) dX12_lastsBy_201
  · have fc_4 : (what).toInt = (0 : Int) := i_eq c_4
    refine lv_iload hx hb dX12_lastsBy_169 (lv_at hl 3 rfl) ?_
    refine lv_goto (tgt := 201) hx hb dX12_lastsBy_171 (by decide) ?_
    exact x_iret C X hr hlk (v := (0 : Int32)) (by first | rfl | decide) (()) [0, 1, 2, 3] (by decide) rfl (⟨rfl, trivial⟩) (Nat.le_of_ble_eq_true rfl) (Nat.le_of_ble_eq_true rfl) dX12_lastsBy_201
set_option maxHeartbeats 4000000 in
set_option maxRecDepth 100000 in
theorem cm_lasts (l : Launch) (D : va_G) (cI cJ cZ cB : ClassId) (cO : ClassId) (a : Nat → Nat) (p1 : Int32) (p2 : Int32) (p3 : Int32) (p4 : Int32) (p5 : Int32) :
    CI l D [(cI, .int), (cJ, .long), (cZ, .boolean), (cB, .byte), (cO, .object "LuckLinks$World")] yX12_lasts cX12_lasts 6 (some .int) ({ frames := 2, cells := 0, slots := 0, locals := 59 } : Room) [.ref (a 0), .int p1, .int p2, .int p3, .int p4, .int p5] [((a 0), .inr (12, (mF a))), ((a 1), .inl (cI, 4, .inl (fun _ => (0 : Int32)))), ((a 49), .inl (cJ, 40, .inr (.inl (fun _ => (0 : Int64))))), ((a 50), .inl (cI, 40, .inl (fun _ => (0 : Int32))))] (fun (r : Int32) (u : Unit) => (r = (0 : Int32) ∧ (-1 ≤ p1.toInt ∧ p1.toInt ≤ 3 ∧ 0 ≤ p2.toInt ∧ p2.toInt < p3.toInt ∧ p3.toInt ≤ p4.toInt ∧ p4.toInt ≤ 39 ∧ 0 ≤ p5.toInt ∧ p5.toInt ≤ 2)) ∨ (r = (-1 : Int32) ∧ (p1.toInt < -1 ∨ 3 < p1.toInt ∨ p2.toInt < 0 ∨ p3.toInt ≤ p2.toInt ∨ p4.toInt < p3.toInt ∨ 39 < p4.toInt ∨ p5.toInt < 0 ∨ 2 < p5.toInt))) (fun (_ : Unit) => []) := by
  intro sz
  refine body_of (y := yX12_lasts) (cc := cX12_lasts) (maxL := 6) (ret := (some .int)) (rm := ({ frames := 2, cells := 0, slots := 0, locals := 59 } : Room)) (wc := [((a 0), .inr (12, (mF a))), ((a 1), .inl (cI, 4, .inl (fun _ => (0 : Int32)))), ((a 49), .inl (cJ, 40, .inr (.inl (fun _ => (0 : Int64))))), ((a 50), .inl (cI, 40, .inl (fun _ => (0 : Int32))))]) (tys := [(cI, .int), (cJ, .long), (cZ, .boolean), (cB, .byte), (cO, .object "LuckLinks$World")]) (D := D) (sz := sz) (own := RX12) (av := [.ref (a 0), .int p1, .int p2, .int p3, .int p4, .int p5]) (Qc := fun A => va_Qi (fun (r : Int32) (u : Unit) => (r = (0 : Int32) ∧ (-1 ≤ p1.toInt ∧ p1.toInt ≤ 3 ∧ 0 ≤ p2.toInt ∧ p2.toInt < p3.toInt ∧ p3.toInt ≤ p4.toInt ∧ p4.toInt ≤ 39 ∧ 0 ≤ p5.toInt ∧ p5.toInt ≤ 2)) ∨ (r = (-1 : Int32) ∧ (p1.toInt < -1 ∨ 3 < p1.toInt ∨ p2.toInt < 0 ∨ p3.toInt ≤ p2.toInt ∨ p4.toInt < p3.toInt ∨ 39 < p4.toInt ∨ p5.toInt < 0 ∨ 2 < p5.toInt))) (fun u t => Aft D A ((fun (_ : Unit) => []) u) t) A) (by decide) rfl (Nat.le_of_ble_eq_true rfl) (fun p e s m below meth c A ls C hr hlk hin X hl => ?_)
  have hx := C.1
  have hb := C.2.1
  have hown := C.2.2.2.1
  have hts := C.2.2.2.2.1
  have hl : lv_has ls 6 [(0, .ref (a 0)), (1, .int p1), (2, .int p2), (3, .int p3), (4, .int p4), (5, .int p5)] := hl
  show W p l e _ s m _ below meth c s.heap [] 0 0 (MQ below (va_Qi (fun (r : Int32) (u : Unit) => (r = (0 : Int32) ∧ (-1 ≤ p1.toInt ∧ p1.toInt ≤ 3 ∧ 0 ≤ p2.toInt ∧ p2.toInt < p3.toInt ∧ p3.toInt ≤ p4.toInt ∧ p4.toInt ≤ 39 ∧ 0 ≤ p5.toInt ∧ p5.toInt ≤ 2)) ∨ (r = (-1 : Int32) ∧ (p1.toInt < -1 ∨ 3 < p1.toInt ∨ p2.toInt < 0 ∨ p3.toInt ≤ p2.toInt ∨ p4.toInt < p3.toInt ∨ 39 < p4.toInt ∨ p5.toInt < 0 ∨ 2 < p5.toInt))) (fun u t => Aft D A ((fun (_ : Unit) => []) u) t) A) ([.ref (a 0), .int p1, .int p2, .int p3, .int p4, .int p5] : List Value).toArray s 0 0 A) (F0 m 0 ls [])
  have X : Wd D A s [((a 0), .inr (12, (mF a))), ((a 1), .inl (cI, 4, .inl (fun _ => (0 : Int32)))), ((a 49), .inl (cJ, 40, .inr (.inl (fun _ => (0 : Int64))))), ((a 50), .inl (cI, 40, .inl (fun _ => (0 : Int32))))] s.heap [] := X
  obtain ⟨H, locs, eH, eL⟩ : ∃ H locs, H = s.heap ∧ locs = ([] : List Loc) := ⟨_, _, rfl, rfl⟩
  rw [← eH, ← eL] at X ⊢
  clear eH eL
  refine lv_iload_n hx hb dX12_lasts_0 rfl (lv_at hl 1 rfl) ?_
  refine x_cS (own := RX12) (wr := [((a 0), .inr (12, (mF a))), ((a 1), .inl (cI, 4, .inl (fun _ => (0 : Int32)))), ((a 49), .inl (cJ, 40, .inr (.inl (fun _ => (0 : Int64))))), ((a 50), .inl (cI, 40, .inl (fun _ => (0 : Int32))))]) (As := [.int p1]) C X hl.1 (c_isPartM l D cI cJ cZ cB cO p1) [] [0, 1, 2, 3] ⟨rfl, rfl, by decide, by decide, by decide⟩ k_45_5 k_45_6 k_1_5 k_45_7 (n := 1) (by decide +kernel) ⟨Nat.le_of_ble_eq_true rfl, Nat.le_of_ble_eq_true rfl⟩ rfl rfl (Nat.le_of_ble_eq_true rfl) dX12_lasts_1 ⟨Nat.le_of_ble_eq_true rfl, Nat.le_of_ble_eq_true rfl⟩ (fun r_2 u_1 H locs w_3 X => ?_)
  have X : Wd D A s [((a 0), .inr (12, (mF a))), ((a 1), .inl (cI, 4, .inl (fun _ => (0 : Int32)))), ((a 49), .inl (cJ, 40, .inr (.inl (fun _ => (0 : Int64))))), ((a 50), .inl (cI, 40, .inl (fun _ => (0 : Int32))))] H locs := X
  refine W.widen (k := 0) (n := 0) (Nat.le_of_ble_eq_true rfl) (Nat.le_of_ble_eq_true rfl) ?_
  obtain ⟨rfl, fw_3⟩ | ⟨rfl, fw_3⟩ : (r_2 = (1 : Int32) ∧ (-1 ≤ (p1).toInt ∧ (p1).toInt ≤ 3)) ∨ (r_2 = (0 : Int32) ∧ ((p1).toInt < -1 ∨ 3 < (p1).toInt)) := w_3
  · refine lv_if_eq (tgt := 27) hx hb dX12_lasts_4 (by decide) (fun c0 => absurd c0 (by decide)) (fun _ => ?_)
    refine lv_iload_n hx hb dX12_lasts_7 rfl (lv_at hl 2 rfl) ?_
    refine lv_iload_n hx hb dX12_lasts_8 rfl (lv_at hl 3 rfl) ?_
    refine lv_iload hx hb dX12_lasts_9 (lv_at hl 4 rfl) ?_
    refine x_cS (own := RX12) (wr := [((a 0), .inr (12, (mF a))), ((a 1), .inl (cI, 4, .inl (fun _ => (0 : Int32)))), ((a 49), .inl (cJ, 40, .inr (.inl (fun _ => (0 : Int64))))), ((a 50), .inl (cI, 40, .inl (fun _ => (0 : Int32))))]) (As := [.int p2, .int p3, .int p4]) C X hl.1 (c_areHalvesM l D cI cJ cZ cB cO p2 p3 p4) [] [0, 1, 2, 3] ⟨rfl, rfl, by decide, by decide, by decide⟩ k_56_18 k_56_19 k_1_5 k_56_20 (n := 3) (by decide +kernel) ⟨Nat.le_of_ble_eq_true rfl, Nat.le_of_ble_eq_true rfl⟩ rfl rfl (Nat.le_of_ble_eq_true rfl) dX12_lasts_11 ⟨Nat.le_of_ble_eq_true rfl, Nat.le_of_ble_eq_true rfl⟩ (fun r_5 u_4 H locs w_6 X => ?_)
    have X : Wd D A s [((a 0), .inr (12, (mF a))), ((a 1), .inl (cI, 4, .inl (fun _ => (0 : Int32)))), ((a 49), .inl (cJ, 40, .inr (.inl (fun _ => (0 : Int64))))), ((a 50), .inl (cI, 40, .inl (fun _ => (0 : Int32))))] H locs := X
    refine W.widen (k := 0) (n := 0) (Nat.le_of_ble_eq_true rfl) (Nat.le_of_ble_eq_true rfl) ?_
    obtain ⟨rfl, fw_6⟩ | ⟨rfl, fw_6⟩ : (r_5 = (1 : Int32) ∧ (0 ≤ (p2).toInt ∧ (p2).toInt < (p3).toInt ∧ (p3).toInt ≤ (p4).toInt ∧ (p4).toInt ≤ 39)) ∨ (r_5 = (0 : Int32) ∧ ((p2).toInt < 0 ∨ (p3).toInt ≤ (p2).toInt ∨ (p4).toInt < (p3).toInt ∨ 39 < (p4).toInt)) := w_6
    · refine lv_if_eq (tgt := 27) hx hb dX12_lasts_14 (by decide) (fun c0 => absurd c0 (by decide)) (fun _ => ?_)
      refine lv_iload hx hb dX12_lasts_17 (lv_at hl 5 rfl) ?_
      refine lv_iconst (v := (0 : Int32)) hx hb dX12_lasts_19 (by decide) ?_
      refine lv_iconst (v := (2 : Int32)) hx hb dX12_lasts_20 (by decide) ?_
      refine x_cS (own := RX12) (wr := [((a 0), .inr (12, (mF a))), ((a 1), .inl (cI, 4, .inl (fun _ => (0 : Int32)))), ((a 49), .inl (cJ, 40, .inr (.inl (fun _ => (0 : Int64))))), ((a 50), .inl (cI, 40, .inl (fun _ => (0 : Int32))))]) (As := [.int p5, .int (0 : Int32), .int (2 : Int32)]) C X hl.1 (c_within l D cI cJ cZ cB cO p5 (0 : Int32) (2 : Int32)) [] [0, 1, 2, 3] ⟨rfl, rfl, by decide, by decide, by decide⟩ k_12_23 k_13_0 k_1_5 k_13_1 (n := 3) (by decide +kernel) ⟨Nat.le_of_ble_eq_true rfl, Nat.le_of_ble_eq_true rfl⟩ rfl rfl (Nat.le_of_ble_eq_true rfl) dX12_lasts_21 ⟨Nat.le_of_ble_eq_true rfl, Nat.le_of_ble_eq_true rfl⟩ (fun r_8 u_7 H locs w_9 X => ?_)
      have X : Wd D A s [((a 0), .inr (12, (mF a))), ((a 1), .inl (cI, 4, .inl (fun _ => (0 : Int32)))), ((a 49), .inl (cJ, 40, .inr (.inl (fun _ => (0 : Int64))))), ((a 50), .inl (cI, 40, .inl (fun _ => (0 : Int32))))] H locs := X
      refine W.widen (k := 0) (n := 0) (Nat.le_of_ble_eq_true rfl) (Nat.le_of_ble_eq_true rfl) ?_
      obtain ⟨rfl, fw_9⟩ | ⟨rfl, fw_9⟩ : (r_8 = (1 : Int32) ∧ ((0 : Int) ≤ (p5).toInt ∧ (p5).toInt ≤ (2 : Int))) ∨ (r_8 = (0 : Int32) ∧ ((p5).toInt < (0 : Int) ∨ (2 : Int) < (p5).toInt)) := w_9
      · refine lv_if_ne (tgt := 31) hx hb dX12_lasts_24 (by decide) (fun _ => ?_) (fun c0 => absurd c0 (by decide))
        obtain ⟨j2, hj2, hqj2⟩ := i_ex (x := p2) 40 (by omega) (by omega)
        have ej2 : p2.toInt = (j2 : Int) := by rw [hqj2]; exact nI_toInt (by omega)
        rw [hqj2] at hl
        have hl : lv_has ls 6 [(0, .ref (a 0)), (1, .int p1), (2, .int (nI (j2))), (3, .int p3), (4, .int p4), (5, .int p5)] := hl
        obtain ⟨j3, hj3, hqj3⟩ := i_ex (x := p3) 40 (by omega) (by omega)
        have ej3 : p3.toInt = (j3 : Int) := by rw [hqj3]; exact nI_toInt (by omega)
        rw [hqj3] at hl
        have hl : lv_has ls 6 [(0, .ref (a 0)), (1, .int p1), (2, .int (nI (j2))), (3, .int (nI (j3))), (4, .int p4), (5, .int p5)] := hl
        obtain ⟨j4, hj4, hqj4⟩ := i_ex (x := p4) 40 (by omega) (by omega)
        have ej4 : p4.toInt = (j4 : Int) := by rw [hqj4]; exact nI_toInt (by omega)
        rw [hqj4] at hl
        have hl : lv_has ls 6 [(0, .ref (a 0)), (1, .int p1), (2, .int (nI (j2))), (3, .int (nI (j3))), (4, .int (nI (j4))), (5, .int p5)] := hl
        refine lv_aload_n hx hb dX12_lasts_31 rfl (lv_at hl 0 rfl) ?_
        refine lv_iload_n hx hb dX12_lasts_32 rfl (lv_at hl 1 rfl) ?_
        refine x_cS (own := RX12) (wr := [((a 0), .inr (12, (mF a))), ((a 1), .inl (cI, 4, .inl (fun _ => (0 : Int32)))), ((a 49), .inl (cJ, 40, .inr (.inl (fun _ => (0 : Int64))))), ((a 50), .inl (cI, 40, .inl (fun _ => (0 : Int32))))]) (As := [.int p1]) C X hl.1 (c_partOf l D cI cJ cZ cB cO p1) [] [0, 1, 2, 3] ⟨rfl, rfl, by decide, by decide, by decide⟩ k_39_2 k_39_3 k_1_5 k_39_4 (n := 1) (by decide +kernel) ⟨Nat.le_of_ble_eq_true rfl, Nat.le_of_ble_eq_true rfl⟩ rfl rfl (Nat.le_of_ble_eq_true rfl) dX12_lasts_33 ⟨Nat.le_of_ble_eq_true rfl, Nat.le_of_ble_eq_true rfl⟩ (fun r_11 u_10 H locs w_12 X => ?_)
        have X : Wd D A s [((a 0), .inr (12, (mF a))), ((a 1), .inl (cI, 4, .inl (fun _ => (0 : Int32)))), ((a 49), .inl (cJ, 40, .inr (.inl (fun _ => (0 : Int64))))), ((a 50), .inl (cI, 40, .inl (fun _ => (0 : Int32))))] H locs := X
        refine W.widen (k := 0) (n := 0) (Nat.le_of_ble_eq_true rfl) (Nat.le_of_ble_eq_true rfl) ?_
        obtain ⟨rfl, fw_12⟩ | ⟨ew_12, fw_12⟩ : (r_11 = (4 : Int32) ∧ True) ∨ (r_11 = p1 ∧ True) := w_12
        · refine lv_iload_n hx hb dX12_lasts_36 rfl (lv_at hl 2 rfl) ?_
          refine lv_iload_n hx hb dX12_lasts_37 rfl (lv_at hl 3 rfl) ?_
          refine lv_iload hx hb dX12_lasts_38 (lv_at hl 4 rfl) ?_
          refine lv_iload hx hb dX12_lasts_40 (lv_at hl 5 rfl) ?_
          refine x_cV (own := RX12) (wr := []) (As := [.int (4 : Int32), .int (nI (j2)), .int (nI (j3)), .int (nI (j4)), .int p5]) C X hl.1 (cm_lastsBy l D cI cJ cZ cB cO a (4 : Int32) j2 j3 j4 p5 (by omega) (by omega)) [0, 1, 2, 3] [] ⟨rfl, rfl, by decide, by decide, by decide⟩ (qb := 0) rfl rfl k_56_21 k_56_22 k_56_23 k_1_5 k_57_0 (n := 5) (by decide +kernel) ⟨Nat.le_of_ble_eq_true rfl, Nat.le_of_ble_eq_true rfl⟩ rfl rfl (Nat.le_of_ble_eq_true rfl) dX12_lasts_42 ⟨Nat.le_of_ble_eq_true rfl, Nat.le_of_ble_eq_true rfl⟩ (fun r_14 u_13 H locs w_15 X => ?_)
          have X : Wd D A s [((a 0), .inr (12, (mF a))), ((a 1), .inl (cI, 4, .inl (fun _ => (0 : Int32)))), ((a 49), .inl (cJ, 40, .inr (.inl (fun _ => (0 : Int64))))), ((a 50), .inl (cI, 40, .inl (fun _ => (0 : Int32))))] H locs := X
          refine W.widen (k := 0) (n := 0) (Nat.le_of_ble_eq_true rfl) (Nat.le_of_ble_eq_true rfl) ?_
          obtain ⟨rfl, fw_15⟩ : r_14 = (0 : Int32) ∧ True := w_15
          exact x_iret C X hr hlk (v := (0 : Int32)) (by first | rfl | decide) (()) [] (by decide) rfl (Or.inl (⟨rfl, by omega⟩)) (Nat.le_of_ble_eq_true rfl) (Nat.le_of_ble_eq_true rfl) dX12_lasts_45
        · refine lv_iload_n hx hb dX12_lasts_36 rfl (lv_at hl 2 rfl) ?_
          refine lv_iload_n hx hb dX12_lasts_37 rfl (lv_at hl 3 rfl) ?_
          refine lv_iload hx hb dX12_lasts_38 (lv_at hl 4 rfl) ?_
          refine lv_iload hx hb dX12_lasts_40 (lv_at hl 5 rfl) ?_
          refine x_cV (own := RX12) (wr := []) (As := [.int r_11, .int (nI (j2)), .int (nI (j3)), .int (nI (j4)), .int p5]) C X hl.1 (cm_lastsBy l D cI cJ cZ cB cO a r_11 j2 j3 j4 p5 (by omega) (by omega)) [0, 1, 2, 3] [] ⟨rfl, rfl, by decide, by decide, by decide⟩ (qb := 0) rfl rfl k_56_21 k_56_22 k_56_23 k_1_5 k_57_0 (n := 5) (by decide +kernel) ⟨Nat.le_of_ble_eq_true rfl, Nat.le_of_ble_eq_true rfl⟩ rfl rfl (Nat.le_of_ble_eq_true rfl) dX12_lasts_42 ⟨Nat.le_of_ble_eq_true rfl, Nat.le_of_ble_eq_true rfl⟩ (fun r_17 u_16 H locs w_18 X => ?_)
          have X : Wd D A s [((a 0), .inr (12, (mF a))), ((a 1), .inl (cI, 4, .inl (fun _ => (0 : Int32)))), ((a 49), .inl (cJ, 40, .inr (.inl (fun _ => (0 : Int64))))), ((a 50), .inl (cI, 40, .inl (fun _ => (0 : Int32))))] H locs := X
          refine W.widen (k := 0) (n := 0) (Nat.le_of_ble_eq_true rfl) (Nat.le_of_ble_eq_true rfl) ?_
          obtain ⟨rfl, fw_18⟩ : r_17 = (0 : Int32) ∧ True := w_18
          exact x_iret C X hr hlk (v := (0 : Int32)) (by first | rfl | decide) (()) [] (by decide) rfl (Or.inl (⟨rfl, by omega⟩)) (Nat.le_of_ble_eq_true rfl) (Nat.le_of_ble_eq_true rfl) dX12_lasts_45
      · refine lv_if_ne (tgt := 31) hx hb dX12_lasts_24 (by decide) (fun c0 => absurd (by decide) c0) (fun _ => ?_)
        refine lv_iconst (v := (-1 : Int32)) hx hb dX12_lasts_27 (by decide) ?_
        refine lv_goto (tgt := 45) hx hb dX12_lasts_28 (by decide) ?_
        exact x_iret C X hr hlk (v := (-1 : Int32)) (by first | rfl | decide) (()) [] (by decide) rfl (Or.inr (⟨rfl, by omega⟩)) (Nat.le_of_ble_eq_true rfl) (Nat.le_of_ble_eq_true rfl) dX12_lasts_45
    · refine lv_if_eq (tgt := 27) hx hb dX12_lasts_14 (by decide) (fun _ => ?_) (fun c0 => absurd (by decide) c0)
      refine lv_iconst (v := (-1 : Int32)) hx hb dX12_lasts_27 (by decide) ?_
      refine lv_goto (tgt := 45) hx hb dX12_lasts_28 (by decide) ?_
      exact x_iret C X hr hlk (v := (-1 : Int32)) (by first | rfl | decide) (()) [] (by decide) rfl (Or.inr (⟨rfl, by omega⟩)) (Nat.le_of_ble_eq_true rfl) (Nat.le_of_ble_eq_true rfl) dX12_lasts_45
  · refine lv_if_eq (tgt := 27) hx hb dX12_lasts_4 (by decide) (fun _ => ?_) (fun c0 => absurd (by decide) c0)
    refine lv_iconst (v := (-1 : Int32)) hx hb dX12_lasts_27 (by decide) ?_
    refine lv_goto (tgt := 45) hx hb dX12_lasts_28 (by decide) ?_
    exact x_iret C X hr hlk (v := (-1 : Int32)) (by first | rfl | decide) (()) [] (by decide) rfl (Or.inr (⟨rfl, by omega⟩)) (Nat.le_of_ble_eq_true rfl) (Nat.le_of_ble_eq_true rfl) dX12_lasts_45
set_option maxHeartbeats 4000000 in
set_option maxRecDepth 100000 in
theorem cm_most (l : Launch) (D : va_G) (cI cJ cZ cB : ClassId) (cO : ClassId) (a : Nat → Nat) (p1 : Int32) (p2 : Int32) (p3 : Int32) :
    CI l D [(cI, .int), (cJ, .long), (cZ, .boolean), (cB, .byte), (cO, .object "LuckLinks$World")] yX12_most cX12_most 6 (some .int) ({ frames := 2, cells := 0, slots := 0, locals := 59 } : Room) [.ref (a 0), .int p1, .int p2, .int p3] [((a 0), .inr (12, (mF a))), ((a 1), .inl (cI, 4, .inl (fun _ => (0 : Int32)))), ((a 49), .inl (cJ, 40, .inr (.inl (fun _ => (0 : Int64))))), ((a 50), .inl (cI, 40, .inl (fun _ => (0 : Int32))))] (fun (r : Int32) (u : Unit) => (r = (0 : Int32) ∧ (0 ≤ p1.toInt ∧ p1.toInt < p2.toInt ∧ p2.toInt ≤ p3.toInt ∧ p3.toInt ≤ 39)) ∨ (r = (-1 : Int32) ∧ (p1.toInt < 0 ∨ p2.toInt ≤ p1.toInt ∨ p3.toInt < p2.toInt ∨ 39 < p3.toInt))) (fun (_ : Unit) => []) := by
  intro sz
  refine body_of (y := yX12_most) (cc := cX12_most) (maxL := 6) (ret := (some .int)) (rm := ({ frames := 2, cells := 0, slots := 0, locals := 59 } : Room)) (wc := [((a 0), .inr (12, (mF a))), ((a 1), .inl (cI, 4, .inl (fun _ => (0 : Int32)))), ((a 49), .inl (cJ, 40, .inr (.inl (fun _ => (0 : Int64))))), ((a 50), .inl (cI, 40, .inl (fun _ => (0 : Int32))))]) (tys := [(cI, .int), (cJ, .long), (cZ, .boolean), (cB, .byte), (cO, .object "LuckLinks$World")]) (D := D) (sz := sz) (own := RX12) (av := [.ref (a 0), .int p1, .int p2, .int p3]) (Qc := fun A => va_Qi (fun (r : Int32) (u : Unit) => (r = (0 : Int32) ∧ (0 ≤ p1.toInt ∧ p1.toInt < p2.toInt ∧ p2.toInt ≤ p3.toInt ∧ p3.toInt ≤ 39)) ∨ (r = (-1 : Int32) ∧ (p1.toInt < 0 ∨ p2.toInt ≤ p1.toInt ∨ p3.toInt < p2.toInt ∨ 39 < p3.toInt))) (fun u t => Aft D A ((fun (_ : Unit) => []) u) t) A) (by decide) rfl (Nat.le_of_ble_eq_true rfl) (fun p e s m below meth c A ls C hr hlk hin X hl => ?_)
  have hx := C.1
  have hb := C.2.1
  have hown := C.2.2.2.1
  have hts := C.2.2.2.2.1
  have hl : lv_has ls 6 [(0, .ref (a 0)), (1, .int p1), (2, .int p2), (3, .int p3)] := hl
  show W p l e _ s m _ below meth c s.heap [] 0 0 (MQ below (va_Qi (fun (r : Int32) (u : Unit) => (r = (0 : Int32) ∧ (0 ≤ p1.toInt ∧ p1.toInt < p2.toInt ∧ p2.toInt ≤ p3.toInt ∧ p3.toInt ≤ 39)) ∨ (r = (-1 : Int32) ∧ (p1.toInt < 0 ∨ p2.toInt ≤ p1.toInt ∨ p3.toInt < p2.toInt ∨ 39 < p3.toInt))) (fun u t => Aft D A ((fun (_ : Unit) => []) u) t) A) ([.ref (a 0), .int p1, .int p2, .int p3] : List Value).toArray s 0 0 A) (F0 m 0 ls [])
  have X : Wd D A s [((a 0), .inr (12, (mF a))), ((a 1), .inl (cI, 4, .inl (fun _ => (0 : Int32)))), ((a 49), .inl (cJ, 40, .inr (.inl (fun _ => (0 : Int64))))), ((a 50), .inl (cI, 40, .inl (fun _ => (0 : Int32))))] s.heap [] := X
  obtain ⟨H, locs, eH, eL⟩ : ∃ H locs, H = s.heap ∧ locs = ([] : List Loc) := ⟨_, _, rfl, rfl⟩
  rw [← eH, ← eL] at X ⊢
  clear eH eL
  refine lv_iload_n hx hb dX12_most_0 rfl (lv_at hl 1 rfl) ?_
  refine lv_iload_n hx hb dX12_most_1 rfl (lv_at hl 2 rfl) ?_
  refine lv_iload_n hx hb dX12_most_2 rfl (lv_at hl 3 rfl) ?_
  refine x_cS (own := RX12) (wr := [((a 0), .inr (12, (mF a))), ((a 1), .inl (cI, 4, .inl (fun _ => (0 : Int32)))), ((a 49), .inl (cJ, 40, .inr (.inl (fun _ => (0 : Int64))))), ((a 50), .inl (cI, 40, .inl (fun _ => (0 : Int32))))]) (As := [.int p1, .int p2, .int p3]) C X hl.1 (c_areHalvesM l D cI cJ cZ cB cO p1 p2 p3) [] [0, 1, 2, 3] ⟨rfl, rfl, by decide, by decide, by decide⟩ k_56_18 k_56_19 k_1_5 k_56_20 (n := 3) (by decide +kernel) ⟨Nat.le_of_ble_eq_true rfl, Nat.le_of_ble_eq_true rfl⟩ rfl rfl (Nat.le_of_ble_eq_true rfl) dX12_most_3 ⟨Nat.le_of_ble_eq_true rfl, Nat.le_of_ble_eq_true rfl⟩ (fun r_2 u_1 H locs w_3 X => ?_)
  have X : Wd D A s [((a 0), .inr (12, (mF a))), ((a 1), .inl (cI, 4, .inl (fun _ => (0 : Int32)))), ((a 49), .inl (cJ, 40, .inr (.inl (fun _ => (0 : Int64))))), ((a 50), .inl (cI, 40, .inl (fun _ => (0 : Int32))))] H locs := X
  refine W.widen (k := 0) (n := 0) (Nat.le_of_ble_eq_true rfl) (Nat.le_of_ble_eq_true rfl) ?_
  obtain ⟨rfl, fw_3⟩ | ⟨rfl, fw_3⟩ : (r_2 = (1 : Int32) ∧ (0 ≤ (p1).toInt ∧ (p1).toInt < (p2).toInt ∧ (p2).toInt ≤ (p3).toInt ∧ (p3).toInt ≤ 39)) ∨ (r_2 = (0 : Int32) ∧ ((p1).toInt < 0 ∨ (p2).toInt ≤ (p1).toInt ∨ (p3).toInt < (p2).toInt ∨ 39 < (p3).toInt)) := w_3
  · refine lv_if_ne (tgt := 11) hx hb dX12_most_6 (by decide) (fun _ => ?_) (fun c0 => absurd c0 (by decide))
    obtain ⟨j1, hj1, hqj1⟩ := i_ex (x := p1) 40 (by omega) (by omega)
    have ej1 : p1.toInt = (j1 : Int) := by rw [hqj1]; exact nI_toInt (by omega)
    rw [hqj1] at hl
    have hl : lv_has ls 6 [(0, .ref (a 0)), (1, .int (nI (j1))), (2, .int p2), (3, .int p3)] := hl
    obtain ⟨j2, hj2, hqj2⟩ := i_ex (x := p2) 40 (by omega) (by omega)
    have ej2 : p2.toInt = (j2 : Int) := by rw [hqj2]; exact nI_toInt (by omega)
    rw [hqj2] at hl
    have hl : lv_has ls 6 [(0, .ref (a 0)), (1, .int (nI (j1))), (2, .int (nI (j2))), (3, .int p3)] := hl
    obtain ⟨j3, hj3, hqj3⟩ := i_ex (x := p3) 40 (by omega) (by omega)
    have ej3 : p3.toInt = (j3 : Int) := by rw [hqj3]; exact nI_toInt (by omega)
    rw [hqj3] at hl
    have hl : lv_has ls 6 [(0, .ref (a 0)), (1, .int (nI (j1))), (2, .int (nI (j2))), (3, .int (nI (j3)))] := hl
    refine lv_iconst (v := (0 : Int32)) hx hb dX12_most_11 (by decide) ?_
    refine lv_istore (lv' := [(4, .int (0 : Int32)), (0, .ref (a 0)), (1, .int (nI (j1))), (2, .int (nI (j2))), (3, .int (nI (j3)))]) hx hb dX12_most_12 hl (by decide) rfl (fun ls hl => ?_)
    refine lv_iconst (v := (1 : Int32)) hx hb dX12_most_14 (by decide) ?_
    refine lv_istore (lv' := [(5, .int (1 : Int32)), (4, .int (0 : Int32)), (0, .ref (a 0)), (1, .int (nI (j1))), (2, .int (nI (j2))), (3, .int (nI (j3)))]) hx hb dX12_most_15 hl (by decide) rfl (fun ls hl => ?_)
    refine lv_iload hx hb dX12_most_17 (lv_at hl 0 rfl) ?_
    refine lv_iconst (v := (4 : Int32)) hx hb dX12_most_19 (by decide) ?_
    refine lv_icmp_ge (tgt := 56) hx hb dX12_most_20 (by decide) (fun c0 => absurd c0 (by decide)) (fun _ => ?_)
    refine lv_aload_n hx hb dX12_most_23 rfl (lv_at hl 2 rfl) ?_
    refine lv_iload hx hb dX12_most_24 (lv_at hl 0 rfl) ?_
    refine lv_iload_n hx hb dX12_most_26 rfl (lv_at hl 3 rfl) ?_
    refine lv_iload_n hx hb dX12_most_27 rfl (lv_at hl 4 rfl) ?_
    refine lv_iload_n hx hb dX12_most_28 rfl (lv_at hl 5 rfl) ?_
    refine lv_iconst (v := (3 : Int32)) hx hb dX12_most_29 (by decide) ?_
    refine x_cV (own := RX12) (wr := []) (As := [.int (1 : Int32), .int (nI (j1)), .int (nI (j2)), .int (nI (j3)), .int (3 : Int32)]) C X hl.1 (cm_lastsBy l D cI cJ cZ cB cO a (1 : Int32) j1 j2 j3 (3 : Int32) (by omega) (by omega)) [0, 1, 2, 3] [] ⟨rfl, rfl, by decide, by decide, by decide⟩ (qb := 0) rfl rfl k_56_21 k_56_22 k_56_23 k_1_5 k_57_0 (n := 5) (by decide +kernel) ⟨Nat.le_of_ble_eq_true rfl, Nat.le_of_ble_eq_true rfl⟩ rfl rfl (Nat.le_of_ble_eq_true rfl) dX12_most_30 ⟨Nat.le_of_ble_eq_true rfl, Nat.le_of_ble_eq_true rfl⟩ (fun r_5 u_4 H locs w_6 X => ?_)
    have X : Wd D A s [((a 0), .inr (12, (mF a))), ((a 1), .inl (cI, 4, .inl (fun _ => (0 : Int32)))), ((a 49), .inl (cJ, 40, .inr (.inl (fun _ => (0 : Int64))))), ((a 50), .inl (cI, 40, .inl (fun _ => (0 : Int32))))] H locs := X
    refine W.widen (k := 0) (n := 0) (Nat.le_of_ble_eq_true rfl) (Nat.le_of_ble_eq_true rfl) ?_
    obtain ⟨rfl, fw_6⟩ : r_5 = (0 : Int32) ∧ True := w_6
    refine lv_aload_n hx hb dX12_most_33 rfl (lv_at hl 2 rfl) ?_
    refine lv_iload hx hb dX12_most_34 (lv_at hl 1 rfl) ?_
    refine lv_iload_n hx hb dX12_most_36 rfl (lv_at hl 3 rfl) ?_
    refine lv_iload_n hx hb dX12_most_37 rfl (lv_at hl 4 rfl) ?_
    refine lv_iload_n hx hb dX12_most_38 rfl (lv_at hl 5 rfl) ?_
    refine lv_iconst (v := (3 : Int32)) hx hb dX12_most_39 (by decide) ?_
    refine x_cV (own := RX12) (wr := []) (As := [.int (0 : Int32), .int (nI (j1)), .int (nI (j2)), .int (nI (j3)), .int (3 : Int32)]) C X hl.1 (cm_lastsBy l D cI cJ cZ cB cO a (0 : Int32) j1 j2 j3 (3 : Int32) (by omega) (by omega)) [0, 1, 2, 3] [] ⟨rfl, rfl, by decide, by decide, by decide⟩ (qb := 0) rfl rfl k_56_21 k_56_22 k_56_23 k_1_5 k_57_0 (n := 5) (by decide +kernel) ⟨Nat.le_of_ble_eq_true rfl, Nat.le_of_ble_eq_true rfl⟩ rfl rfl (Nat.le_of_ble_eq_true rfl) dX12_most_40 ⟨Nat.le_of_ble_eq_true rfl, Nat.le_of_ble_eq_true rfl⟩ (fun r_8 u_7 H locs w_9 X => ?_)
    have X : Wd D A s [((a 0), .inr (12, (mF a))), ((a 1), .inl (cI, 4, .inl (fun _ => (0 : Int32)))), ((a 49), .inl (cJ, 40, .inr (.inl (fun _ => (0 : Int64))))), ((a 50), .inl (cI, 40, .inl (fun _ => (0 : Int32))))] H locs := X
    refine W.widen (k := 0) (n := 0) (Nat.le_of_ble_eq_true rfl) (Nat.le_of_ble_eq_true rfl) ?_
    obtain ⟨rfl, fw_9⟩ : r_8 = (0 : Int32) ∧ True := w_9
    refine lv_icmp_le (tgt := 50) hx hb dX12_most_43 (by decide) (fun _ => ?_) (fun c0 => absurd (by decide) c0)
    refine lv_iinc (v := (2 : Int32)) (lv' := [(5, .int (2 : Int32)), (4, .int (0 : Int32)), (0, .ref (a 0)), (1, .int (nI (j1))), (2, .int (nI (j2))), (3, .int (nI (j3)))]) hx hb dX12_most_50 hl (k := 0) rfl (by decide) (by decide) rfl (fun ls hl => ?_)
    refine lv_goto (tgt := 17) hx hb dX12_most_53 (by decide) ?_
    refine lv_iload hx hb dX12_most_17 (lv_at hl 0 rfl) ?_
    refine lv_iconst (v := (4 : Int32)) hx hb dX12_most_19 (by decide) ?_
    refine lv_icmp_ge (tgt := 56) hx hb dX12_most_20 (by decide) (fun c0 => absurd c0 (by decide)) (fun _ => ?_)
    refine lv_aload_n hx hb dX12_most_23 rfl (lv_at hl 2 rfl) ?_
    refine lv_iload hx hb dX12_most_24 (lv_at hl 0 rfl) ?_
    refine lv_iload_n hx hb dX12_most_26 rfl (lv_at hl 3 rfl) ?_
    refine lv_iload_n hx hb dX12_most_27 rfl (lv_at hl 4 rfl) ?_
    refine lv_iload_n hx hb dX12_most_28 rfl (lv_at hl 5 rfl) ?_
    refine lv_iconst (v := (3 : Int32)) hx hb dX12_most_29 (by decide) ?_
    refine x_cV (own := RX12) (wr := []) (As := [.int (2 : Int32), .int (nI (j1)), .int (nI (j2)), .int (nI (j3)), .int (3 : Int32)]) C X hl.1 (cm_lastsBy l D cI cJ cZ cB cO a (2 : Int32) j1 j2 j3 (3 : Int32) (by omega) (by omega)) [0, 1, 2, 3] [] ⟨rfl, rfl, by decide, by decide, by decide⟩ (qb := 0) rfl rfl k_56_21 k_56_22 k_56_23 k_1_5 k_57_0 (n := 5) (by decide +kernel) ⟨Nat.le_of_ble_eq_true rfl, Nat.le_of_ble_eq_true rfl⟩ rfl rfl (Nat.le_of_ble_eq_true rfl) dX12_most_30 ⟨Nat.le_of_ble_eq_true rfl, Nat.le_of_ble_eq_true rfl⟩ (fun r_11 u_10 H locs w_12 X => ?_)
    have X : Wd D A s [((a 0), .inr (12, (mF a))), ((a 1), .inl (cI, 4, .inl (fun _ => (0 : Int32)))), ((a 49), .inl (cJ, 40, .inr (.inl (fun _ => (0 : Int64))))), ((a 50), .inl (cI, 40, .inl (fun _ => (0 : Int32))))] H locs := X
    refine W.widen (k := 0) (n := 0) (Nat.le_of_ble_eq_true rfl) (Nat.le_of_ble_eq_true rfl) ?_
    obtain ⟨rfl, fw_12⟩ : r_11 = (0 : Int32) ∧ True := w_12
    refine lv_aload_n hx hb dX12_most_33 rfl (lv_at hl 2 rfl) ?_
    refine lv_iload hx hb dX12_most_34 (lv_at hl 1 rfl) ?_
    refine lv_iload_n hx hb dX12_most_36 rfl (lv_at hl 3 rfl) ?_
    refine lv_iload_n hx hb dX12_most_37 rfl (lv_at hl 4 rfl) ?_
    refine lv_iload_n hx hb dX12_most_38 rfl (lv_at hl 5 rfl) ?_
    refine lv_iconst (v := (3 : Int32)) hx hb dX12_most_39 (by decide) ?_
    refine x_cV (own := RX12) (wr := []) (As := [.int (0 : Int32), .int (nI (j1)), .int (nI (j2)), .int (nI (j3)), .int (3 : Int32)]) C X hl.1 (cm_lastsBy l D cI cJ cZ cB cO a (0 : Int32) j1 j2 j3 (3 : Int32) (by omega) (by omega)) [0, 1, 2, 3] [] ⟨rfl, rfl, by decide, by decide, by decide⟩ (qb := 0) rfl rfl k_56_21 k_56_22 k_56_23 k_1_5 k_57_0 (n := 5) (by decide +kernel) ⟨Nat.le_of_ble_eq_true rfl, Nat.le_of_ble_eq_true rfl⟩ rfl rfl (Nat.le_of_ble_eq_true rfl) dX12_most_40 ⟨Nat.le_of_ble_eq_true rfl, Nat.le_of_ble_eq_true rfl⟩ (fun r_14 u_13 H locs w_15 X => ?_)
    have X : Wd D A s [((a 0), .inr (12, (mF a))), ((a 1), .inl (cI, 4, .inl (fun _ => (0 : Int32)))), ((a 49), .inl (cJ, 40, .inr (.inl (fun _ => (0 : Int64))))), ((a 50), .inl (cI, 40, .inl (fun _ => (0 : Int32))))] H locs := X
    refine W.widen (k := 0) (n := 0) (Nat.le_of_ble_eq_true rfl) (Nat.le_of_ble_eq_true rfl) ?_
    obtain ⟨rfl, fw_15⟩ : r_14 = (0 : Int32) ∧ True := w_15
    refine lv_icmp_le (tgt := 50) hx hb dX12_most_43 (by decide) (fun _ => ?_) (fun c0 => absurd (by decide) c0)
    refine lv_iinc (v := (3 : Int32)) (lv' := [(5, .int (3 : Int32)), (4, .int (0 : Int32)), (0, .ref (a 0)), (1, .int (nI (j1))), (2, .int (nI (j2))), (3, .int (nI (j3)))]) hx hb dX12_most_50 hl (k := 0) rfl (by decide) (by decide) rfl (fun ls hl => ?_)
    refine lv_goto (tgt := 17) hx hb dX12_most_53 (by decide) ?_
    refine lv_iload hx hb dX12_most_17 (lv_at hl 0 rfl) ?_
    refine lv_iconst (v := (4 : Int32)) hx hb dX12_most_19 (by decide) ?_
    refine lv_icmp_ge (tgt := 56) hx hb dX12_most_20 (by decide) (fun c0 => absurd c0 (by decide)) (fun _ => ?_)
    refine lv_aload_n hx hb dX12_most_23 rfl (lv_at hl 2 rfl) ?_
    refine lv_iload hx hb dX12_most_24 (lv_at hl 0 rfl) ?_
    refine lv_iload_n hx hb dX12_most_26 rfl (lv_at hl 3 rfl) ?_
    refine lv_iload_n hx hb dX12_most_27 rfl (lv_at hl 4 rfl) ?_
    refine lv_iload_n hx hb dX12_most_28 rfl (lv_at hl 5 rfl) ?_
    refine lv_iconst (v := (3 : Int32)) hx hb dX12_most_29 (by decide) ?_
    refine x_cV (own := RX12) (wr := []) (As := [.int (3 : Int32), .int (nI (j1)), .int (nI (j2)), .int (nI (j3)), .int (3 : Int32)]) C X hl.1 (cm_lastsBy l D cI cJ cZ cB cO a (3 : Int32) j1 j2 j3 (3 : Int32) (by omega) (by omega)) [0, 1, 2, 3] [] ⟨rfl, rfl, by decide, by decide, by decide⟩ (qb := 0) rfl rfl k_56_21 k_56_22 k_56_23 k_1_5 k_57_0 (n := 5) (by decide +kernel) ⟨Nat.le_of_ble_eq_true rfl, Nat.le_of_ble_eq_true rfl⟩ rfl rfl (Nat.le_of_ble_eq_true rfl) dX12_most_30 ⟨Nat.le_of_ble_eq_true rfl, Nat.le_of_ble_eq_true rfl⟩ (fun r_17 u_16 H locs w_18 X => ?_)
    have X : Wd D A s [((a 0), .inr (12, (mF a))), ((a 1), .inl (cI, 4, .inl (fun _ => (0 : Int32)))), ((a 49), .inl (cJ, 40, .inr (.inl (fun _ => (0 : Int64))))), ((a 50), .inl (cI, 40, .inl (fun _ => (0 : Int32))))] H locs := X
    refine W.widen (k := 0) (n := 0) (Nat.le_of_ble_eq_true rfl) (Nat.le_of_ble_eq_true rfl) ?_
    obtain ⟨rfl, fw_18⟩ : r_17 = (0 : Int32) ∧ True := w_18
    refine lv_aload_n hx hb dX12_most_33 rfl (lv_at hl 2 rfl) ?_
    refine lv_iload hx hb dX12_most_34 (lv_at hl 1 rfl) ?_
    refine lv_iload_n hx hb dX12_most_36 rfl (lv_at hl 3 rfl) ?_
    refine lv_iload_n hx hb dX12_most_37 rfl (lv_at hl 4 rfl) ?_
    refine lv_iload_n hx hb dX12_most_38 rfl (lv_at hl 5 rfl) ?_
    refine lv_iconst (v := (3 : Int32)) hx hb dX12_most_39 (by decide) ?_
    refine x_cV (own := RX12) (wr := []) (As := [.int (0 : Int32), .int (nI (j1)), .int (nI (j2)), .int (nI (j3)), .int (3 : Int32)]) C X hl.1 (cm_lastsBy l D cI cJ cZ cB cO a (0 : Int32) j1 j2 j3 (3 : Int32) (by omega) (by omega)) [0, 1, 2, 3] [] ⟨rfl, rfl, by decide, by decide, by decide⟩ (qb := 0) rfl rfl k_56_21 k_56_22 k_56_23 k_1_5 k_57_0 (n := 5) (by decide +kernel) ⟨Nat.le_of_ble_eq_true rfl, Nat.le_of_ble_eq_true rfl⟩ rfl rfl (Nat.le_of_ble_eq_true rfl) dX12_most_40 ⟨Nat.le_of_ble_eq_true rfl, Nat.le_of_ble_eq_true rfl⟩ (fun r_20 u_19 H locs w_21 X => ?_)
    have X : Wd D A s [((a 0), .inr (12, (mF a))), ((a 1), .inl (cI, 4, .inl (fun _ => (0 : Int32)))), ((a 49), .inl (cJ, 40, .inr (.inl (fun _ => (0 : Int64))))), ((a 50), .inl (cI, 40, .inl (fun _ => (0 : Int32))))] H locs := X
    refine W.widen (k := 0) (n := 0) (Nat.le_of_ble_eq_true rfl) (Nat.le_of_ble_eq_true rfl) ?_
    obtain ⟨rfl, fw_21⟩ : r_20 = (0 : Int32) ∧ True := w_21
    refine lv_icmp_le (tgt := 50) hx hb dX12_most_43 (by decide) (fun _ => ?_) (fun c0 => absurd (by decide) c0)
    refine lv_iinc (v := (4 : Int32)) (lv' := [(5, .int (4 : Int32)), (4, .int (0 : Int32)), (0, .ref (a 0)), (1, .int (nI (j1))), (2, .int (nI (j2))), (3, .int (nI (j3)))]) hx hb dX12_most_50 hl (k := 0) rfl (by decide) (by decide) rfl (fun ls hl => ?_)
    refine lv_goto (tgt := 17) hx hb dX12_most_53 (by decide) ?_
    refine lv_iload hx hb dX12_most_17 (lv_at hl 0 rfl) ?_
    refine lv_iconst (v := (4 : Int32)) hx hb dX12_most_19 (by decide) ?_
    refine lv_icmp_ge (tgt := 56) hx hb dX12_most_20 (by decide) (fun _ => ?_) (fun c0 => absurd (by decide) c0)
    refine lv_iload hx hb dX12_most_56 (lv_at hl 1 rfl) ?_
    exact x_iret C X hr hlk (v := (0 : Int32)) (by first | rfl | decide) (()) [] (by decide) rfl (Or.inl (⟨rfl, by omega⟩)) (Nat.le_of_ble_eq_true rfl) (Nat.le_of_ble_eq_true rfl) dX12_most_58
  · refine lv_if_ne (tgt := 11) hx hb dX12_most_6 (by decide) (fun c0 => absurd (by decide) c0) (fun _ => ?_)
    refine lv_iconst (v := (-1 : Int32)) hx hb dX12_most_9 (by decide) ?_
    exact x_iret C X hr hlk (v := (-1 : Int32)) (by first | rfl | decide) (()) [] (by decide) rfl (Or.inr (⟨rfl, by omega⟩)) (Nat.le_of_ble_eq_true rfl) (Nat.le_of_ble_eq_true rfl) dX12_most_10
set_option maxHeartbeats 4000000 in
set_option maxRecDepth 100000 in
theorem cm_findPoints (l : Launch) (D : va_G) (cI cJ cZ cB : ClassId) (cO : ClassId) (a : Nat → Nat) (p1 : Int32) (p2 : Int32) (p3 : Int32) :
    CV l D [(cI, .int), (cJ, .long), (cZ, .boolean), (cB, .byte), (cO, .object "LuckLinks$World")] yX12_findPoints cX12_findPoints 6 ({ frames := 0, cells := 0, slots := 0, locals := 0 } : Room) [.ref (a 0), .int p1, .int p2, .int p3] [((a 0), .inr (12, (mF a))), ((a 1), .inl (cI, 4, .inl (fun _ => (0 : Int32))))] (fun (u : Unit) => (True)) (fun (_ : Unit) => [((a 0), .inr (12, (mF a))), ((a 1), .inl (cI, 4, .inl (fun _ => (0 : Int32))))]) := by
  intro sz
  refine body_of (y := yX12_findPoints) (cc := cX12_findPoints) (maxL := 6) (ret := none) (rm := ({ frames := 0, cells := 0, slots := 0, locals := 0 } : Room)) (wc := [((a 0), .inr (12, (mF a))), ((a 1), .inl (cI, 4, .inl (fun _ => (0 : Int32))))]) (tys := [(cI, .int), (cJ, .long), (cZ, .boolean), (cB, .byte), (cO, .object "LuckLinks$World")]) (D := D) (sz := sz) (own := RX12) (av := [.ref (a 0), .int p1, .int p2, .int p3]) (Qc := fun A => va_Qv (fun (u : Unit) => (True)) (fun u t => Aft D A ((fun (_ : Unit) => [((a 0), .inr (12, (mF a))), ((a 1), .inl (cI, 4, .inl (fun _ => (0 : Int32))))]) u) t) A) (by decide) rfl (Nat.le_of_ble_eq_true rfl) (fun p e s m below meth c A ls C hr hlk hin X hl => ?_)
  have hx := C.1
  have hb := C.2.1
  have hown := C.2.2.2.1
  have hts := C.2.2.2.2.1
  have hl : lv_has ls 6 [(0, .ref (a 0)), (1, .int p1), (2, .int p2), (3, .int p3)] := hl
  show W p l e _ s m _ below meth c s.heap [] 0 0 (MQ below (va_Qv (fun (u : Unit) => (True)) (fun u t => Aft D A ((fun (_ : Unit) => [((a 0), .inr (12, (mF a))), ((a 1), .inl (cI, 4, .inl (fun _ => (0 : Int32))))]) u) t) A) ([.ref (a 0), .int p1, .int p2, .int p3] : List Value).toArray s 0 0 A) (F0 m 0 ls [])
  have X : Wd D A s [((a 0), .inr (12, (mF a))), ((a 1), .inl (cI, 4, .inl (fun _ => (0 : Int32))))] s.heap [] := X
  obtain ⟨H, locs, eH, eL⟩ : ∃ H locs, H = s.heap ∧ locs = ([] : List Loc) := ⟨_, _, rfl, rfl⟩
  rw [← eH, ← eL] at X ⊢
  clear eH eL
  refine lv_iconst (v := (0 : Int32)) hx hb dX12_findPoints_0 (by decide) ?_
  refine lv_istore (lv' := [(4, .int (0 : Int32)), (0, .ref (a 0)), (1, .int p1), (2, .int p2), (3, .int p3)]) hx hb dX12_findPoints_1 hl (by decide) rfl (fun ls hl => ?_)
  refine lv_iload hx hb dX12_findPoints_3 (lv_at hl 0 rfl) ?_
  refine lv_aload_n hx hb dX12_findPoints_5 rfl (lv_at hl 1 rfl) ?_
  refine x_get (own := RX12) (T := TX12) C X 0 rfl rfl 0 (by decide) k_9_16 rfl rfl (v := .ref (a 1)) rfl dX12_findPoints_6 ?_
  refine lv_iconst (v := (0 : Int32)) hx hb dX12_findPoints_9 (by decide) ?_
  refine x_iald C X 1 0 rfl rfl (j := 0) rfl (vp_in_nI (n := 0) (by omega) (by omega)) (v := (0 : Int32)) (rfl) dX12_findPoints_10 ?_
  refine lv_icmp_ge (tgt := 80) hx hb dX12_findPoints_11 (by decide) (fun _ => ?_) (fun c0 => absurd (by decide) c0)
  exact x_vret C X hr hlk (()) [0, 1] (by decide) rfl (trivial) (Nat.le_of_ble_eq_true rfl) (Nat.le_of_ble_eq_true rfl) dX12_findPoints_80
set_option maxHeartbeats 4000000 in
set_option maxRecDepth 100000 in
theorem cm_firstOnes (l : Launch) (D : va_G) (cI cJ cZ cB : ClassId) (cO : ClassId) (a : Nat → Nat) (v : Int32) :
    CI l D [(cI, .int), (cJ, .long), (cZ, .boolean), (cB, .byte), (cO, .object "LuckLinks$World")] yX12_firstOnes cX12_firstOnes 4 (some .int) ({ frames := 0, cells := 0, slots := 0, locals := 0 } : Room) [.ref (a 0), .int v] [((a 0), .inr (12, (mF a))), ((a 1), .inl (cI, 4, .inl (fun _ => (0 : Int32))))] (fun (r : Int32) (u : Unit) => (r = (0 : Int32) ∧ True)) (fun (_ : Unit) => [((a 0), .inr (12, (mF a))), ((a 1), .inl (cI, 4, .inl (fun _ => (0 : Int32))))]) := by
  intro sz
  refine body_of (y := yX12_firstOnes) (cc := cX12_firstOnes) (maxL := 4) (ret := (some .int)) (rm := ({ frames := 0, cells := 0, slots := 0, locals := 0 } : Room)) (wc := [((a 0), .inr (12, (mF a))), ((a 1), .inl (cI, 4, .inl (fun _ => (0 : Int32))))]) (tys := [(cI, .int), (cJ, .long), (cZ, .boolean), (cB, .byte), (cO, .object "LuckLinks$World")]) (D := D) (sz := sz) (own := RX12) (av := [.ref (a 0), .int v]) (Qc := fun A => va_Qi (fun (r : Int32) (u : Unit) => (r = (0 : Int32) ∧ True)) (fun u t => Aft D A ((fun (_ : Unit) => [((a 0), .inr (12, (mF a))), ((a 1), .inl (cI, 4, .inl (fun _ => (0 : Int32))))]) u) t) A) (by decide) rfl (Nat.le_of_ble_eq_true rfl) (fun p e s m below meth c A ls C hr hlk hin X hl => ?_)
  have hx := C.1
  have hb := C.2.1
  have hown := C.2.2.2.1
  have hts := C.2.2.2.2.1
  have hl : lv_has ls 4 [(0, .ref (a 0)), (1, .int v)] := hl
  show W p l e _ s m _ below meth c s.heap [] 0 0 (MQ below (va_Qi (fun (r : Int32) (u : Unit) => (r = (0 : Int32) ∧ True)) (fun u t => Aft D A ((fun (_ : Unit) => [((a 0), .inr (12, (mF a))), ((a 1), .inl (cI, 4, .inl (fun _ => (0 : Int32))))]) u) t) A) ([.ref (a 0), .int v] : List Value).toArray s 0 0 A) (F0 m 0 ls [])
  have X : Wd D A s [((a 0), .inr (12, (mF a))), ((a 1), .inl (cI, 4, .inl (fun _ => (0 : Int32))))] s.heap [] := X
  obtain ⟨H, locs, eH, eL⟩ : ∃ H locs, H = s.heap ∧ locs = ([] : List Loc) := ⟨_, _, rfl, rfl⟩
  rw [← eH, ← eL] at X ⊢
  clear eH eL
  refine lv_iconst (v := (0 : Int32)) hx hb dX12_firstOnes_0 (by decide) ?_
  refine lv_istore_n (lv' := [(2, .int (0 : Int32)), (0, .ref (a 0)), (1, .int v)]) hx hb dX12_firstOnes_1 rfl hl (by decide) rfl (fun ls hl => ?_)
  refine lv_iconst (v := (0 : Int32)) hx hb dX12_firstOnes_2 (by decide) ?_
  refine lv_istore_n (lv' := [(3, .int (0 : Int32)), (2, .int (0 : Int32)), (0, .ref (a 0)), (1, .int v)]) hx hb dX12_firstOnes_3 rfl hl (by decide) rfl (fun ls hl => ?_)
  refine lv_iload_n hx hb dX12_firstOnes_4 rfl (lv_at hl 0 rfl) ?_
  refine lv_aload_n hx hb dX12_firstOnes_5 rfl (lv_at hl 2 rfl) ?_
  refine x_get (own := RX12) (T := TX12) C X 0 rfl rfl 0 (by decide) k_9_16 rfl rfl (v := .ref (a 1)) rfl dX12_firstOnes_6 ?_
  refine lv_iconst (v := (0 : Int32)) hx hb dX12_firstOnes_9 (by decide) ?_
  refine x_iald C X 1 0 rfl rfl (j := 0) rfl (vp_in_nI (n := 0) (by omega) (by omega)) (v := (0 : Int32)) (rfl) dX12_firstOnes_10 ?_
  refine lv_icmp_ge (tgt := 39) hx hb dX12_firstOnes_11 (by decide) (fun _ => ?_) (fun c0 => absurd (by decide) c0)
  refine lv_iload_n hx hb dX12_firstOnes_39 rfl (lv_at hl 1 rfl) ?_
  exact x_iret C X hr hlk (v := (0 : Int32)) (by first | rfl | decide) (()) [0, 1] (by decide) rfl (⟨rfl, trivial⟩) (Nat.le_of_ble_eq_true rfl) (Nat.le_of_ble_eq_true rfl) dX12_firstOnes_40
set_option maxHeartbeats 4000000 in
set_option maxRecDepth 100000 in
theorem c_bitsOf0 (l : Launch) (D : va_G) (cI cJ cZ cB : ClassId) (cO : ClassId) :
    CI l D [(cI, .int), (cJ, .long), (cZ, .boolean), (cB, .byte), (cO, .object "LuckLinks$World")] yX12_bitsOf cX12_bitsOf 3 (some .int) ({ frames := 0, cells := 0, slots := 0, locals := 0 } : Room) [.int (0 : Int32)] [] (fun (r : Int32) (u : Unit) => (r = (0 : Int32) ∧ True)) (fun (_ : Unit) => []) := by
  intro sz
  refine body_of (y := yX12_bitsOf) (cc := cX12_bitsOf) (maxL := 3) (ret := (some .int)) (rm := ({ frames := 0, cells := 0, slots := 0, locals := 0 } : Room)) (wc := []) (tys := [(cI, .int), (cJ, .long), (cZ, .boolean), (cB, .byte), (cO, .object "LuckLinks$World")]) (D := D) (sz := sz) (own := RX12) (av := [.int (0 : Int32)]) (Qc := fun A => va_Qi (fun (r : Int32) (u : Unit) => (r = (0 : Int32) ∧ True)) (fun u t => Aft D A ((fun (_ : Unit) => []) u) t) A) (by decide) rfl (Nat.le_of_ble_eq_true rfl) (fun p e s m below meth c A ls C hr hlk hin X hl => ?_)
  have hx := C.1
  have hb := C.2.1
  have hown := C.2.2.2.1
  have hts := C.2.2.2.2.1
  have hl : lv_has ls 3 [(0, .int (0 : Int32))] := hl
  show W p l e _ s m _ below meth c s.heap [] 0 0 (MQ below (va_Qi (fun (r : Int32) (u : Unit) => (r = (0 : Int32) ∧ True)) (fun u t => Aft D A ((fun (_ : Unit) => []) u) t) A) ([.int (0 : Int32)] : List Value).toArray s 0 0 A) (F0 m 0 ls [])
  have X : Wd D A s [] s.heap [] := X
  obtain ⟨H, locs, eH, eL⟩ : ∃ H locs, H = s.heap ∧ locs = ([] : List Loc) := ⟨_, _, rfl, rfl⟩
  rw [← eH, ← eL] at X ⊢
  clear eH eL
  refine lv_iconst (v := (0 : Int32)) hx hb dX12_bitsOf_0 (by decide) ?_
  refine lv_istore_n (lv' := [(1, .int (0 : Int32)), (0, .int (0 : Int32))]) hx hb dX12_bitsOf_1 rfl hl (by decide) rfl (fun ls hl => ?_)
  refine lv_iconst (v := (0 : Int32)) hx hb dX12_bitsOf_2 (by decide) ?_
  refine lv_istore_n (lv' := [(2, .int (0 : Int32)), (1, .int (0 : Int32)), (0, .int (0 : Int32))]) hx hb dX12_bitsOf_3 rfl hl (by decide) rfl (fun ls hl => ?_)
  have L4 : ∀ (n : Nat) (v : Nat) (H : Heap) (locs : List Loc) (ls : Array Slot), (g1 : v ≤ 20) → 20 < v + n → Wd D A s [] H locs → lv_has ls 3 [(2, .int (nI (v))), (1, .int (0 : Int32)), (0, .int (0 : Int32))] → W p l e ({ frames := 0, cells := 0, slots := 0, locals := 0 } : Room) s m ([.int (0 : Int32)] : List Value).toArray below meth c H locs 0 0 (MQ below (va_Qi (fun (r : Int32) (u : Unit) => (r = (0 : Int32) ∧ True)) (fun u t => Aft D A ((fun (_ : Unit) => []) u) t) A) ([.int (0 : Int32)] : List Value).toArray s 0 0 A) (F0 m 4 ls []) := by
    intro n
    induction n with
    | zero => intro v H locs ls g1 hn; exact absurd hn (by omega)
    | succ n ih =>
      intro v H locs ls g1 hn X hl
      have ih4 := ih
      refine lv_iload_n hx hb dX12_bitsOf_4 rfl (lv_at hl 0 rfl) ?_
      refine lv_bipush (v := (20 : Int32)) hx hb dX12_bitsOf_5 (by decide) ?_
      refine lv_icmp_ge (tgt := 24) hx hb dX12_bitsOf_7 (by decide) (fun c_1 => ?_) (fun c_1 => ?_)
      · have fc_1 : (20 : Int) ≤ ((v : Nat) : Int) := (by have h9 := i_le c_1; simp only [nI_toInt (n := v) (by omega)] at h9; exact h9)
        refine lv_iload_n hx hb dX12_bitsOf_24 rfl (lv_at hl 1 rfl) ?_
        exact x_iret C X hr hlk (v := (0 : Int32)) (by first | rfl | decide) (()) [] (by decide) rfl (⟨rfl, trivial⟩) (Nat.le_of_ble_eq_true rfl) (Nat.le_of_ble_eq_true rfl) dX12_bitsOf_25
      · have fc_1 : ((v : Nat) : Int) < (20 : Int) := (by have h9 := i_nle c_1; simp only [nI_toInt (n := v) (by omega)] at h9; exact h9)
        refine lv_iload_n hx hb dX12_bitsOf_10 rfl (lv_at hl 1 rfl) ?_
        refine lv_iload_n hx hb dX12_bitsOf_11 rfl (lv_at hl 2 rfl) ?_
        refine lv_iload_n hx hb dX12_bitsOf_12 rfl (lv_at hl 0 rfl) ?_
        refine lv_ishr hx hb dX12_bitsOf_13 ?_
        refine x_eqi (show (0 : Int32) >>> ((nI (v)) &&& 31) = (0 : Int32) from by simp) ?_
        refine lv_iconst (v := (1 : Int32)) hx hb dX12_bitsOf_14 (by decide) ?_
        refine lv_iand hx hb dX12_bitsOf_15 ?_
        refine x_eqi (show (0 : Int32) &&& (1 : Int32) = (0 : Int32) from by decide +kernel) ?_
        refine lv_iadd hx hb dX12_bitsOf_16 ?_
        refine x_eqi (show (0 : Int32) + (0 : Int32) = (0 : Int32) from by decide +kernel) ?_
        refine lv_istore_n (lv' := [(1, .int (0 : Int32)), (2, .int (nI (v))), (0, .int (0 : Int32))]) hx hb dX12_bitsOf_17 rfl hl (by decide) rfl (fun ls hl => ?_)
        refine lv_iinc (v := (nI (v + 1))) (lv' := [(2, .int (nI (v + 1))), (1, .int (0 : Int32)), (0, .int (0 : Int32))]) hx hb dX12_bitsOf_18 hl (k := 1) rfl (nI_add _ 1) (by decide) rfl (fun ls hl => ?_)
        refine lv_goto (tgt := 4) hx hb dX12_bitsOf_21 (by decide) ?_
        exact ih4  (v + 1) H locs ls (by omega) (by omega) (x_sub X [] (by decide) rfl) (lv_sub hl [0, 1, 2] rfl)
  exact L4 (20 + 1) (0) H locs ls (by omega) (by omega) (x_sub X [] (by decide) rfl) (lv_sub hl [0, 1, 2] rfl)
set_option maxHeartbeats 4000000 in
set_option maxRecDepth 100000 in
theorem cm_line (l : Launch) (D : va_G) (cI cJ cZ cB : ClassId) (cO : ClassId) (a : Nat → Nat) (p1 : Int32) (p2 : Int32) (p3 : Int32) (p4 : Int32) :
    CI l D [(cI, .int), (cJ, .long), (cZ, .boolean), (cB, .byte), (cO, .object "LuckLinks$World")] yX12_line cX12_line 8 (some .int) ({ frames := 2, cells := 0, slots := 0, locals := 41 } : Room) [.ref (a 0), .int p1, .int p2, .int p3, .int p4] [((a 0), .inr (12, (mF a))), ((a 1), .inl (cI, 4, .inl (fun _ => (0 : Int32))))] (fun (r : Int32) (u : Unit) => (r = (0 : Int32) ∧ (1 ≤ p1.toInt ∧ p1.toInt ≤ 20 ∧ 0 ≤ p2.toInt ∧ p2.toInt ≤ p3.toInt ∧ p3.toInt ≤ 39 ∧ 0 ≤ p4.toInt ∧ p4.toInt ≤ 2)) ∨ (r = (-1 : Int32) ∧ (p1.toInt < 1 ∨ 20 < p1.toInt ∨ p2.toInt < 0 ∨ p3.toInt < p2.toInt ∨ 39 < p3.toInt ∨ p4.toInt < 0 ∨ 2 < p4.toInt))) (fun (_ : Unit) => []) := by
  intro sz
  refine body_of (y := yX12_line) (cc := cX12_line) (maxL := 8) (ret := (some .int)) (rm := ({ frames := 2, cells := 0, slots := 0, locals := 41 } : Room)) (wc := [((a 0), .inr (12, (mF a))), ((a 1), .inl (cI, 4, .inl (fun _ => (0 : Int32))))]) (tys := [(cI, .int), (cJ, .long), (cZ, .boolean), (cB, .byte), (cO, .object "LuckLinks$World")]) (D := D) (sz := sz) (own := RX12) (av := [.ref (a 0), .int p1, .int p2, .int p3, .int p4]) (Qc := fun A => va_Qi (fun (r : Int32) (u : Unit) => (r = (0 : Int32) ∧ (1 ≤ p1.toInt ∧ p1.toInt ≤ 20 ∧ 0 ≤ p2.toInt ∧ p2.toInt ≤ p3.toInt ∧ p3.toInt ≤ 39 ∧ 0 ≤ p4.toInt ∧ p4.toInt ≤ 2)) ∨ (r = (-1 : Int32) ∧ (p1.toInt < 1 ∨ 20 < p1.toInt ∨ p2.toInt < 0 ∨ p3.toInt < p2.toInt ∨ 39 < p3.toInt ∨ p4.toInt < 0 ∨ 2 < p4.toInt))) (fun u t => Aft D A ((fun (_ : Unit) => []) u) t) A) (by decide) rfl (Nat.le_of_ble_eq_true rfl) (fun p e s m below meth c A ls C hr hlk hin X hl => ?_)
  have hx := C.1
  have hb := C.2.1
  have hown := C.2.2.2.1
  have hts := C.2.2.2.2.1
  have hl : lv_has ls 8 [(0, .ref (a 0)), (1, .int p1), (2, .int p2), (3, .int p3), (4, .int p4)] := hl
  show W p l e _ s m _ below meth c s.heap [] 0 0 (MQ below (va_Qi (fun (r : Int32) (u : Unit) => (r = (0 : Int32) ∧ (1 ≤ p1.toInt ∧ p1.toInt ≤ 20 ∧ 0 ≤ p2.toInt ∧ p2.toInt ≤ p3.toInt ∧ p3.toInt ≤ 39 ∧ 0 ≤ p4.toInt ∧ p4.toInt ≤ 2)) ∨ (r = (-1 : Int32) ∧ (p1.toInt < 1 ∨ 20 < p1.toInt ∨ p2.toInt < 0 ∨ p3.toInt < p2.toInt ∨ 39 < p3.toInt ∨ p4.toInt < 0 ∨ 2 < p4.toInt))) (fun u t => Aft D A ((fun (_ : Unit) => []) u) t) A) ([.ref (a 0), .int p1, .int p2, .int p3, .int p4] : List Value).toArray s 0 0 A) (F0 m 0 ls [])
  have X : Wd D A s [((a 0), .inr (12, (mF a))), ((a 1), .inl (cI, 4, .inl (fun _ => (0 : Int32))))] s.heap [] := X
  obtain ⟨H, locs, eH, eL⟩ : ∃ H locs, H = s.heap ∧ locs = ([] : List Loc) := ⟨_, _, rfl, rfl⟩
  rw [← eH, ← eL] at X ⊢
  clear eH eL
  refine lv_iload_n hx hb dX12_line_0 rfl (lv_at hl 1 rfl) ?_
  refine lv_iconst (v := (1 : Int32)) hx hb dX12_line_1 (by decide) ?_
  refine lv_bipush (v := (20 : Int32)) hx hb dX12_line_2 (by decide) ?_
  refine x_cS (own := RX12) (wr := [((a 0), .inr (12, (mF a))), ((a 1), .inl (cI, 4, .inl (fun _ => (0 : Int32))))]) (As := [.int p1, .int (1 : Int32), .int (20 : Int32)]) C X hl.1 (c_within l D cI cJ cZ cB cO p1 (1 : Int32) (20 : Int32)) [] [0, 1] ⟨rfl, rfl, by decide, by decide, by decide⟩ k_12_23 k_13_0 k_1_5 k_13_1 (n := 3) (by decide +kernel) ⟨Nat.le_of_ble_eq_true rfl, Nat.le_of_ble_eq_true rfl⟩ rfl rfl (Nat.le_of_ble_eq_true rfl) dX12_line_4 ⟨Nat.le_of_ble_eq_true rfl, Nat.le_of_ble_eq_true rfl⟩ (fun r_2 u_1 H locs w_3 X => ?_)
  have X : Wd D A s [((a 0), .inr (12, (mF a))), ((a 1), .inl (cI, 4, .inl (fun _ => (0 : Int32))))] H locs := X
  refine W.widen (k := 0) (n := 0) (Nat.le_of_ble_eq_true rfl) (Nat.le_of_ble_eq_true rfl) ?_
  obtain ⟨rfl, fw_3⟩ | ⟨rfl, fw_3⟩ : (r_2 = (1 : Int32) ∧ ((1 : Int) ≤ (p1).toInt ∧ (p1).toInt ≤ (20 : Int))) ∨ (r_2 = (0 : Int32) ∧ ((p1).toInt < (1 : Int) ∨ (20 : Int) < (p1).toInt)) := w_3
  · refine lv_if_eq (tgt := 28) hx hb dX12_line_7 (by decide) (fun c0 => absurd c0 (by decide)) (fun _ => ?_)
    refine lv_iload_n hx hb dX12_line_10 rfl (lv_at hl 2 rfl) ?_
    refine lv_iload_n hx hb dX12_line_11 rfl (lv_at hl 3 rfl) ?_
    refine x_cS (own := RX12) (wr := [((a 0), .inr (12, (mF a))), ((a 1), .inl (cI, 4, .inl (fun _ => (0 : Int32))))]) (As := [.int p2, .int p3]) C X hl.1 (c_areWeeksM l D cI cJ cZ cB cO p2 p3) [] [0, 1] ⟨rfl, rfl, by decide, by decide, by decide⟩ k_42_1 k_42_2 k_1_5 k_42_3 (n := 2) (by decide +kernel) ⟨Nat.le_of_ble_eq_true rfl, Nat.le_of_ble_eq_true rfl⟩ rfl rfl (Nat.le_of_ble_eq_true rfl) dX12_line_12 ⟨Nat.le_of_ble_eq_true rfl, Nat.le_of_ble_eq_true rfl⟩ (fun r_5 u_4 H locs w_6 X => ?_)
    have X : Wd D A s [((a 0), .inr (12, (mF a))), ((a 1), .inl (cI, 4, .inl (fun _ => (0 : Int32))))] H locs := X
    refine W.widen (k := 0) (n := 0) (Nat.le_of_ble_eq_true rfl) (Nat.le_of_ble_eq_true rfl) ?_
    obtain ⟨rfl, fw_6⟩ | ⟨rfl, fw_6⟩ : (r_5 = (1 : Int32) ∧ (0 ≤ (p2).toInt ∧ (p2).toInt ≤ (p3).toInt ∧ (p3).toInt ≤ 39)) ∨ (r_5 = (0 : Int32) ∧ ((p2).toInt < 0 ∨ (p3).toInt < (p2).toInt ∨ 39 < (p3).toInt)) := w_6
    · refine lv_if_eq (tgt := 28) hx hb dX12_line_15 (by decide) (fun c0 => absurd c0 (by decide)) (fun _ => ?_)
      refine lv_iload hx hb dX12_line_18 (lv_at hl 4 rfl) ?_
      refine lv_iconst (v := (0 : Int32)) hx hb dX12_line_20 (by decide) ?_
      refine lv_iconst (v := (2 : Int32)) hx hb dX12_line_21 (by decide) ?_
      refine x_cS (own := RX12) (wr := [((a 0), .inr (12, (mF a))), ((a 1), .inl (cI, 4, .inl (fun _ => (0 : Int32))))]) (As := [.int p4, .int (0 : Int32), .int (2 : Int32)]) C X hl.1 (c_within l D cI cJ cZ cB cO p4 (0 : Int32) (2 : Int32)) [] [0, 1] ⟨rfl, rfl, by decide, by decide, by decide⟩ k_12_23 k_13_0 k_1_5 k_13_1 (n := 3) (by decide +kernel) ⟨Nat.le_of_ble_eq_true rfl, Nat.le_of_ble_eq_true rfl⟩ rfl rfl (Nat.le_of_ble_eq_true rfl) dX12_line_22 ⟨Nat.le_of_ble_eq_true rfl, Nat.le_of_ble_eq_true rfl⟩ (fun r_8 u_7 H locs w_9 X => ?_)
      have X : Wd D A s [((a 0), .inr (12, (mF a))), ((a 1), .inl (cI, 4, .inl (fun _ => (0 : Int32))))] H locs := X
      refine W.widen (k := 0) (n := 0) (Nat.le_of_ble_eq_true rfl) (Nat.le_of_ble_eq_true rfl) ?_
      obtain ⟨rfl, fw_9⟩ | ⟨rfl, fw_9⟩ : (r_8 = (1 : Int32) ∧ ((0 : Int) ≤ (p4).toInt ∧ (p4).toInt ≤ (2 : Int))) ∨ (r_8 = (0 : Int32) ∧ ((p4).toInt < (0 : Int) ∨ (2 : Int) < (p4).toInt)) := w_9
      · refine lv_if_ne (tgt := 30) hx hb dX12_line_25 (by decide) (fun _ => ?_) (fun c0 => absurd c0 (by decide))
        refine lv_aload_n hx hb dX12_line_30 rfl (lv_at hl 0 rfl) ?_
        refine lv_iload_n hx hb dX12_line_31 rfl (lv_at hl 2 rfl) ?_
        refine lv_iload_n hx hb dX12_line_32 rfl (lv_at hl 3 rfl) ?_
        refine lv_iconst (v := (0 : Int32)) hx hb dX12_line_33 (by decide) ?_
        refine x_cVv (own := RX12) (wr := []) (As := [.int p2, .int p3, .int (0 : Int32)]) C X hl.1 (cm_findPoints l D cI cJ cZ cB cO a p2 p3 (0 : Int32)) [0, 1] [] ⟨rfl, rfl, by decide, by decide, by decide⟩ (qb := 0) rfl rfl k_59_4 k_59_5 k_59_6 k_1_5 k_59_7 (n := 3) (by decide +kernel) ⟨Nat.le_of_ble_eq_true rfl, Nat.le_of_ble_eq_true rfl⟩ rfl rfl (Nat.le_of_ble_eq_true rfl) dX12_line_34 ⟨Nat.le_of_ble_eq_true rfl, Nat.le_of_ble_eq_true rfl⟩ (fun u_10 H locs w_12 X => ?_)
        have X : Wd D A s [((a 0), .inr (12, (mF a))), ((a 1), .inl (cI, 4, .inl (fun _ => (0 : Int32))))] H locs := X
        refine W.widen (k := 0) (n := 0) (Nat.le_of_ble_eq_true rfl) (Nat.le_of_ble_eq_true rfl) ?_
        refine lv_aload_n hx hb dX12_line_37 rfl (lv_at hl 0 rfl) ?_
        refine lv_iload_n hx hb dX12_line_38 rfl (lv_at hl 1 rfl) ?_
        refine x_cV (own := RX12) (wr := []) (As := [.int p1]) C X hl.1 (cm_firstOnes l D cI cJ cZ cB cO a p1) [0, 1] [] ⟨rfl, rfl, by decide, by decide, by decide⟩ (qb := 0) rfl rfl k_60_0 k_60_1 k_60_2 k_1_5 k_60_3 (n := 1) (by decide +kernel) ⟨Nat.le_of_ble_eq_true rfl, Nat.le_of_ble_eq_true rfl⟩ rfl rfl (Nat.le_of_ble_eq_true rfl) dX12_line_39 ⟨Nat.le_of_ble_eq_true rfl, Nat.le_of_ble_eq_true rfl⟩ (fun r_14 u_13 H locs w_15 X => ?_)
        have X : Wd D A s [((a 0), .inr (12, (mF a))), ((a 1), .inl (cI, 4, .inl (fun _ => (0 : Int32))))] H locs := X
        refine W.widen (k := 0) (n := 0) (Nat.le_of_ble_eq_true rfl) (Nat.le_of_ble_eq_true rfl) ?_
        obtain ⟨rfl, fw_15⟩ : r_14 = (0 : Int32) ∧ True := w_15
        refine lv_istore (lv' := [(5, .int (0 : Int32)), (0, .ref (a 0)), (1, .int p1), (2, .int p2), (3, .int p3), (4, .int p4)]) hx hb dX12_line_42 hl (by decide) rfl (fun ls hl => ?_)
        refine lv_aload_n hx hb dX12_line_44 rfl (lv_at hl 1 rfl) ?_
        refine lv_iload_n hx hb dX12_line_45 rfl (lv_at hl 3 rfl) ?_
        refine lv_iload_n hx hb dX12_line_46 rfl (lv_at hl 4 rfl) ?_
        refine lv_iconst (v := (1 : Int32)) hx hb dX12_line_47 (by decide) ?_
        refine x_cVv (own := RX12) (wr := []) (As := [.int p2, .int p3, .int (1 : Int32)]) C X hl.1 (cm_findPoints l D cI cJ cZ cB cO a p2 p3 (1 : Int32)) [0, 1] [] ⟨rfl, rfl, by decide, by decide, by decide⟩ (qb := 0) rfl rfl k_59_4 k_59_5 k_59_6 k_1_5 k_59_7 (n := 3) (by decide +kernel) ⟨Nat.le_of_ble_eq_true rfl, Nat.le_of_ble_eq_true rfl⟩ rfl rfl (Nat.le_of_ble_eq_true rfl) dX12_line_48 ⟨Nat.le_of_ble_eq_true rfl, Nat.le_of_ble_eq_true rfl⟩ (fun u_16 H locs w_18 X => ?_)
        have X : Wd D A s [((a 0), .inr (12, (mF a))), ((a 1), .inl (cI, 4, .inl (fun _ => (0 : Int32))))] H locs := X
        refine W.widen (k := 0) (n := 0) (Nat.le_of_ble_eq_true rfl) (Nat.le_of_ble_eq_true rfl) ?_
        refine lv_aload_n hx hb dX12_line_51 rfl (lv_at hl 1 rfl) ?_
        refine lv_iload_n hx hb dX12_line_52 rfl (lv_at hl 2 rfl) ?_
        refine x_cV (own := RX12) (wr := []) (As := [.int p1]) C X hl.1 (cm_firstOnes l D cI cJ cZ cB cO a p1) [0, 1] [] ⟨rfl, rfl, by decide, by decide, by decide⟩ (qb := 0) rfl rfl k_60_0 k_60_1 k_60_2 k_1_5 k_60_3 (n := 1) (by decide +kernel) ⟨Nat.le_of_ble_eq_true rfl, Nat.le_of_ble_eq_true rfl⟩ rfl rfl (Nat.le_of_ble_eq_true rfl) dX12_line_53 ⟨Nat.le_of_ble_eq_true rfl, Nat.le_of_ble_eq_true rfl⟩ (fun r_20 u_19 H locs w_21 X => ?_)
        have X : Wd D A s [((a 0), .inr (12, (mF a))), ((a 1), .inl (cI, 4, .inl (fun _ => (0 : Int32))))] H locs := X
        refine W.widen (k := 0) (n := 0) (Nat.le_of_ble_eq_true rfl) (Nat.le_of_ble_eq_true rfl) ?_
        obtain ⟨rfl, fw_21⟩ : r_20 = (0 : Int32) ∧ True := w_21
        refine lv_istore (lv' := [(6, .int (0 : Int32)), (5, .int (0 : Int32)), (0, .ref (a 0)), (1, .int p1), (2, .int p2), (3, .int p3), (4, .int p4)]) hx hb dX12_line_56 hl (by decide) rfl (fun ls hl => ?_)
        refine lv_aload_n hx hb dX12_line_58 rfl (lv_at hl 2 rfl) ?_
        refine lv_iload_n hx hb dX12_line_59 rfl (lv_at hl 4 rfl) ?_
        refine lv_iload_n hx hb dX12_line_60 rfl (lv_at hl 5 rfl) ?_
        refine lv_iconst (v := (2 : Int32)) hx hb dX12_line_61 (by decide) ?_
        refine x_cVv (own := RX12) (wr := []) (As := [.int p2, .int p3, .int (2 : Int32)]) C X hl.1 (cm_findPoints l D cI cJ cZ cB cO a p2 p3 (2 : Int32)) [0, 1] [] ⟨rfl, rfl, by decide, by decide, by decide⟩ (qb := 0) rfl rfl k_59_4 k_59_5 k_59_6 k_1_5 k_59_7 (n := 3) (by decide +kernel) ⟨Nat.le_of_ble_eq_true rfl, Nat.le_of_ble_eq_true rfl⟩ rfl rfl (Nat.le_of_ble_eq_true rfl) dX12_line_62 ⟨Nat.le_of_ble_eq_true rfl, Nat.le_of_ble_eq_true rfl⟩ (fun u_22 H locs w_24 X => ?_)
        have X : Wd D A s [((a 0), .inr (12, (mF a))), ((a 1), .inl (cI, 4, .inl (fun _ => (0 : Int32))))] H locs := X
        refine W.widen (k := 0) (n := 0) (Nat.le_of_ble_eq_true rfl) (Nat.le_of_ble_eq_true rfl) ?_
        refine lv_aload_n hx hb dX12_line_65 rfl (lv_at hl 2 rfl) ?_
        refine lv_iload_n hx hb dX12_line_66 rfl (lv_at hl 3 rfl) ?_
        refine x_cV (own := RX12) (wr := []) (As := [.int p1]) C X hl.1 (cm_firstOnes l D cI cJ cZ cB cO a p1) [0, 1] [] ⟨rfl, rfl, by decide, by decide, by decide⟩ (qb := 0) rfl rfl k_60_0 k_60_1 k_60_2 k_1_5 k_60_3 (n := 1) (by decide +kernel) ⟨Nat.le_of_ble_eq_true rfl, Nat.le_of_ble_eq_true rfl⟩ rfl rfl (Nat.le_of_ble_eq_true rfl) dX12_line_67 ⟨Nat.le_of_ble_eq_true rfl, Nat.le_of_ble_eq_true rfl⟩ (fun r_26 u_25 H locs w_27 X => ?_)
        have X : Wd D A s [((a 0), .inr (12, (mF a))), ((a 1), .inl (cI, 4, .inl (fun _ => (0 : Int32))))] H locs := X
        refine W.widen (k := 0) (n := 0) (Nat.le_of_ble_eq_true rfl) (Nat.le_of_ble_eq_true rfl) ?_
        obtain ⟨rfl, fw_27⟩ : r_26 = (0 : Int32) ∧ True := w_27
        refine lv_istore (lv' := [(7, .int (0 : Int32)), (6, .int (0 : Int32)), (5, .int (0 : Int32)), (0, .ref (a 0)), (1, .int p1), (2, .int p2), (3, .int p3), (4, .int p4)]) hx hb dX12_line_70 hl (by decide) rfl (fun ls hl => ?_)
        refine lv_iload hx hb dX12_line_72 (lv_at hl 2 rfl) ?_
        refine lv_iload hx hb dX12_line_74 (lv_at hl 7 rfl) ?_
        refine lv_if_ne (tgt := 84) hx hb dX12_line_76 (by decide) (fun c_28 => ?_) (fun c_28 => ?_)
        · have fc_28 : (p4).toInt ≠ (0 : Int) := i_ne c_28
          refine lv_iload hx hb dX12_line_84 (lv_at hl 7 rfl) ?_
          refine lv_iconst (v := (1 : Int32)) hx hb dX12_line_86 (by decide) ?_
          refine lv_icmp_ne (tgt := 95) hx hb dX12_line_87 (by decide) (fun c_29 => ?_) (fun c_29 => ?_)
          · have fc_29 : (p4).toInt ≠ (1 : Int) := i_ne c_29
            refine lv_iload hx hb dX12_line_95 (lv_at hl 1 rfl) ?_
            refine lv_iload hx hb dX12_line_97 (lv_at hl 0 rfl) ?_
            refine lv_ior hx hb dX12_line_99 ?_
            refine x_eqi (show (0 : Int32) ||| (0 : Int32) = (0 : Int32) from by decide +kernel) ?_
            refine lv_iconst (v := (-1 : Int32)) hx hb dX12_line_100 (by decide) ?_
            refine lv_ixor hx hb dX12_line_101 ?_
            refine x_eqi (show (0 : Int32) ^^^ (-1 : Int32) = (-1 : Int32) from by decide +kernel) ?_
            refine lv_iand hx hb dX12_line_102 ?_
            refine x_eqi (show (0 : Int32) &&& (-1 : Int32) = (0 : Int32) from by decide +kernel) ?_
            refine x_cS (own := RX12) (wr := [((a 0), .inr (12, (mF a))), ((a 1), .inl (cI, 4, .inl (fun _ => (0 : Int32))))]) (As := [.int (0 : Int32)]) C X hl.1 (c_bitsOf0 l D cI cJ cZ cB cO) [] [0, 1] ⟨rfl, rfl, by decide, by decide, by decide⟩ k_36_5 k_36_6 k_1_5 k_36_7 (n := 1) (by decide +kernel) ⟨Nat.le_of_ble_eq_true rfl, Nat.le_of_ble_eq_true rfl⟩ rfl rfl (Nat.le_of_ble_eq_true rfl) dX12_line_103 ⟨Nat.le_of_ble_eq_true rfl, Nat.le_of_ble_eq_true rfl⟩ (fun r_31 u_30 H locs w_32 X => ?_)
            have X : Wd D A s [((a 0), .inr (12, (mF a))), ((a 1), .inl (cI, 4, .inl (fun _ => (0 : Int32))))] H locs := X
            refine W.widen (k := 0) (n := 0) (Nat.le_of_ble_eq_true rfl) (Nat.le_of_ble_eq_true rfl) ?_
            obtain ⟨rfl, fw_32⟩ : r_31 = (0 : Int32) ∧ True := w_32
            exact x_iret C X hr hlk (v := (0 : Int32)) (by first | rfl | decide) (()) [] (by decide) rfl (Or.inl (⟨rfl, by omega⟩)) (Nat.le_of_ble_eq_true rfl) (Nat.le_of_ble_eq_true rfl) dX12_line_106
          · have fc_29 : (p4).toInt = (1 : Int) := i_eq c_29
            refine lv_iload hx hb dX12_line_90 (lv_at hl 0 rfl) ?_
            refine lv_goto (tgt := 100) hx hb dX12_line_92 (by decide) ?_
            refine lv_iconst (v := (-1 : Int32)) hx hb dX12_line_100 (by decide) ?_
            refine lv_ixor hx hb dX12_line_101 ?_
            refine x_eqi (show (0 : Int32) ^^^ (-1 : Int32) = (-1 : Int32) from by decide +kernel) ?_
            refine lv_iand hx hb dX12_line_102 ?_
            refine x_eqi (show (0 : Int32) &&& (-1 : Int32) = (0 : Int32) from by decide +kernel) ?_
            refine x_cS (own := RX12) (wr := [((a 0), .inr (12, (mF a))), ((a 1), .inl (cI, 4, .inl (fun _ => (0 : Int32))))]) (As := [.int (0 : Int32)]) C X hl.1 (c_bitsOf0 l D cI cJ cZ cB cO) [] [0, 1] ⟨rfl, rfl, by decide, by decide, by decide⟩ k_36_5 k_36_6 k_1_5 k_36_7 (n := 1) (by decide +kernel) ⟨Nat.le_of_ble_eq_true rfl, Nat.le_of_ble_eq_true rfl⟩ rfl rfl (Nat.le_of_ble_eq_true rfl) dX12_line_103 ⟨Nat.le_of_ble_eq_true rfl, Nat.le_of_ble_eq_true rfl⟩ (fun r_34 u_33 H locs w_35 X => ?_)
            have X : Wd D A s [((a 0), .inr (12, (mF a))), ((a 1), .inl (cI, 4, .inl (fun _ => (0 : Int32))))] H locs := X
            refine W.widen (k := 0) (n := 0) (Nat.le_of_ble_eq_true rfl) (Nat.le_of_ble_eq_true rfl) ?_
            obtain ⟨rfl, fw_35⟩ : r_34 = (0 : Int32) ∧ True := w_35
            exact x_iret C X hr hlk (v := (0 : Int32)) (by first | rfl | decide) (()) [] (by decide) rfl (Or.inl (⟨rfl, by omega⟩)) (Nat.le_of_ble_eq_true rfl) (Nat.le_of_ble_eq_true rfl) dX12_line_106
        · have fc_28 : (p4).toInt = (0 : Int) := i_eq c_28
          refine lv_iload hx hb dX12_line_79 (lv_at hl 1 rfl) ?_
          refine lv_goto (tgt := 100) hx hb dX12_line_81 (by decide) ?_
          refine lv_iconst (v := (-1 : Int32)) hx hb dX12_line_100 (by decide) ?_
          refine lv_ixor hx hb dX12_line_101 ?_
          refine x_eqi (show (0 : Int32) ^^^ (-1 : Int32) = (-1 : Int32) from by decide +kernel) ?_
          refine lv_iand hx hb dX12_line_102 ?_
          refine x_eqi (show (0 : Int32) &&& (-1 : Int32) = (0 : Int32) from by decide +kernel) ?_
          refine x_cS (own := RX12) (wr := [((a 0), .inr (12, (mF a))), ((a 1), .inl (cI, 4, .inl (fun _ => (0 : Int32))))]) (As := [.int (0 : Int32)]) C X hl.1 (c_bitsOf0 l D cI cJ cZ cB cO) [] [0, 1] ⟨rfl, rfl, by decide, by decide, by decide⟩ k_36_5 k_36_6 k_1_5 k_36_7 (n := 1) (by decide +kernel) ⟨Nat.le_of_ble_eq_true rfl, Nat.le_of_ble_eq_true rfl⟩ rfl rfl (Nat.le_of_ble_eq_true rfl) dX12_line_103 ⟨Nat.le_of_ble_eq_true rfl, Nat.le_of_ble_eq_true rfl⟩ (fun r_37 u_36 H locs w_38 X => ?_)
          have X : Wd D A s [((a 0), .inr (12, (mF a))), ((a 1), .inl (cI, 4, .inl (fun _ => (0 : Int32))))] H locs := X
          refine W.widen (k := 0) (n := 0) (Nat.le_of_ble_eq_true rfl) (Nat.le_of_ble_eq_true rfl) ?_
          obtain ⟨rfl, fw_38⟩ : r_37 = (0 : Int32) ∧ True := w_38
          exact x_iret C X hr hlk (v := (0 : Int32)) (by first | rfl | decide) (()) [] (by decide) rfl (Or.inl (⟨rfl, by omega⟩)) (Nat.le_of_ble_eq_true rfl) (Nat.le_of_ble_eq_true rfl) dX12_line_106
      · refine lv_if_ne (tgt := 30) hx hb dX12_line_25 (by decide) (fun c0 => absurd (by decide) c0) (fun _ => ?_)
        refine lv_iconst (v := (-1 : Int32)) hx hb dX12_line_28 (by decide) ?_
        exact x_iret C X hr hlk (v := (-1 : Int32)) (by first | rfl | decide) (()) [] (by decide) rfl (Or.inr (⟨rfl, by omega⟩)) (Nat.le_of_ble_eq_true rfl) (Nat.le_of_ble_eq_true rfl) dX12_line_29
    · refine lv_if_eq (tgt := 28) hx hb dX12_line_15 (by decide) (fun _ => ?_) (fun c0 => absurd (by decide) c0)
      refine lv_iconst (v := (-1 : Int32)) hx hb dX12_line_28 (by decide) ?_
      exact x_iret C X hr hlk (v := (-1 : Int32)) (by first | rfl | decide) (()) [] (by decide) rfl (Or.inr (⟨rfl, by omega⟩)) (Nat.le_of_ble_eq_true rfl) (Nat.le_of_ble_eq_true rfl) dX12_line_29
  · refine lv_if_eq (tgt := 28) hx hb dX12_line_7 (by decide) (fun _ => ?_) (fun c0 => absurd (by decide) c0)
    refine lv_iconst (v := (-1 : Int32)) hx hb dX12_line_28 (by decide) ?_
    exact x_iret C X hr hlk (v := (-1 : Int32)) (by first | rfl | decide) (()) [] (by decide) rfl (Or.inr (⟨rfl, by omega⟩)) (Nat.le_of_ble_eq_true rfl) (Nat.le_of_ble_eq_true rfl) dX12_line_29
