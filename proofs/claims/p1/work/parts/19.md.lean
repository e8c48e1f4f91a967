theorem k_25_17 : Cond.fieldLink RX12 212 "LuckLinksModel" "limit" "I" ∈ wsL_law := mr_25 _ (List.mem_of_getElem? (i := 17) rfl)
theorem k_25_18 : Cond.fieldLink RX12 209 "LuckLinksModel" "point" "I" ∈ wsL_law := mr_25 _ (List.mem_of_getElem? (i := 18) rfl)
theorem k_25_19 : Cond.fieldLink RX12 237 "LuckLinksModel" "isWrong" "Z" ∈ wsL_law := mr_25 _ (List.mem_of_getElem? (i := 19) rfl)
theorem k_25_20 : Cond.fieldLink RX12 285 "LuckLinksModel" "written" "I" ∈ wsL_law := mr_25 _ (List.mem_of_getElem? (i := 20) rfl)
theorem k_25_21 : Cond.fieldLink RX12 231 "LuckLinksModel" "token" "I" ∈ wsL_law := mr_25 _ (List.mem_of_getElem? (i := 21) rfl)
theorem k_25_22 : Cond.methodLink RX12 337 yX12_clears ∈ wsL_law := mr_25 _ (List.mem_of_getElem? (i := 22) rfl)
theorem k_25_23 : Cond.instanceMethod yX12_clears ∈ wsL_law := mr_25 _ (List.mem_of_getElem? (i := 23) rfl)
theorem k_26_0 : Cond.selects RX12 yX12_clears yX12_clears ∈ wsL_law := mr_26 _ (List.mem_of_getElem? (i := 0) rfl)
theorem k_26_1 : Cond.code yX12_clears cX12_clears 2 none ∈ wsL_law := mr_26 _ (List.mem_of_getElem? (i := 1) rfl)
theorem k_26_12 : Cond.methodLink RX12 215 yX12_here ∈ wsL_law := mr_26 _ (List.mem_of_getElem? (i := 12) rfl)
theorem k_26_13 : Cond.instanceMethod yX12_here ∈ wsL_law := mr_26 _ (List.mem_of_getElem? (i := 13) rfl)
theorem k_26_14 : Cond.selects RX12 yX12_here yX12_here ∈ wsL_law := mr_26 _ (List.mem_of_getElem? (i := 14) rfl)
theorem k_26_15 : Cond.code yX12_here cX12_here 1 (some .int) ∈ wsL_law := mr_26 _ (List.mem_of_getElem? (i := 15) rfl)
theorem k_26_2 : Cond.methodLink RX12 244 yX12_next ∈ wsL_law := mr_26 _ (List.mem_of_getElem? (i := 2) rfl)
theorem k_26_3 : Cond.instanceMethod yX12_next ∈ wsL_law := mr_26 _ (List.mem_of_getElem? (i := 3) rfl)
theorem k_26_4 : Cond.selects RX12 yX12_next yX12_next ∈ wsL_law := mr_26 _ (List.mem_of_getElem? (i := 4) rfl)
theorem k_26_5 : Cond.code yX12_next cX12_next 2 none ∈ wsL_law := mr_26 _ (List.mem_of_getElem? (i := 5) rfl)
theorem k_26_6 : Cond.fieldLink RX12 219 "LuckLinksModel" "from" "I" ∈ wsL_law := mr_26 _ (List.mem_of_getElem? (i := 6) rfl)
theorem k_26_8 : Cond.fieldLink RX12 224 "LuckLinksModel" "text" "J" ∈ wsL_law := mr_26 _ (List.mem_of_getElem? (i := 8) rfl)
theorem k_26_9 : Cond.fieldLink RX12 228 "LuckLinksModel" "value" "I" ∈ wsL_law := mr_26 _ (List.mem_of_getElem? (i := 9) rfl)
theorem k_29_21 : Cond.methodLink RX12 343 yX12_takes ∈ wsL_law := mr_29 _ (List.mem_of_getElem? (i := 21) rfl)
theorem k_29_22 : Cond.instanceMethod yX12_takes ∈ wsL_law := mr_29 _ (List.mem_of_getElem? (i := 22) rfl)
theorem k_29_23 : Cond.selects RX12 yX12_takes yX12_takes ∈ wsL_law := mr_29 _ (List.mem_of_getElem? (i := 23) rfl)
theorem k_30_0 : Cond.code yX12_takes cX12_takes 2 none ∈ wsL_law := mr_30 _ (List.mem_of_getElem? (i := 0) rfl)
theorem k_66_17 : Cond.methodLink RX12 178 yX12_copies ∈ wsL_law := mr_66 _ (List.mem_of_getElem? (i := 17) rfl)
theorem k_66_18 : Cond.instanceMethod yX12_copies ∈ wsL_law := mr_66 _ (List.mem_of_getElem? (i := 18) rfl)
theorem k_66_19 : Cond.selects RX12 yX12_copies yX12_copies ∈ wsL_law := mr_66 _ (List.mem_of_getElem? (i := 19) rfl)
theorem k_66_20 : Cond.code yX12_copies cX12_copies 4 none ∈ wsL_law := mr_66 _ (List.mem_of_getElem? (i := 20) rfl)
theorem dX12_clears_0 : decode cX12_clears 0 = .ok (.aload_n 0, 1) := by decide +kernel
theorem dX12_clears_1 : decode cX12_clears 1 = .ok (.getfield 52, 3) := by decide +kernel
theorem dX12_clears_4 : decode cX12_clears 4 = .ok (.iconst 1, 1) := by decide +kernel
theorem dX12_clears_5 : decode cX12_clears 5 = .ok (.iconst 0, 1) := by decide +kernel
theorem dX12_clears_6 : decode cX12_clears 6 = .ok (.iastore, 1) := by decide +kernel
theorem dX12_clears_7 : decode cX12_clears 7 = .ok (.aload_n 0, 1) := by decide +kernel
theorem dX12_clears_8 : decode cX12_clears 8 = .ok (.getfield 55, 3) := by decide +kernel
theorem dX12_clears_11 : decode cX12_clears 11 = .ok (.iconst 1, 1) := by decide +kernel
theorem dX12_clears_12 : decode cX12_clears 12 = .ok (.iconst 0, 1) := by decide +kernel
theorem dX12_clears_13 : decode cX12_clears 13 = .ok (.iastore, 1) := by decide +kernel
theorem dX12_clears_14 : decode cX12_clears 14 = .ok (.aload_n 0, 1) := by decide +kernel
theorem dX12_clears_15 : decode cX12_clears 15 = .ok (.getfield 58, 3) := by decide +kernel
theorem dX12_clears_18 : decode cX12_clears 18 = .ok (.iconst 1, 1) := by decide +kernel
theorem dX12_clears_19 : decode cX12_clears 19 = .ok (.iconst 0, 1) := by decide +kernel
theorem dX12_clears_20 : decode cX12_clears 20 = .ok (.iastore, 1) := by decide +kernel
theorem dX12_clears_21 : decode cX12_clears 21 = .ok (.iconst 0, 1) := by decide +kernel
theorem dX12_clears_22 : decode cX12_clears 22 = .ok (.istore_n 1, 1) := by decide +kernel
theorem dX12_clears_23 : decode cX12_clears 23 = .ok (.iload_n 1, 1) := by decide +kernel
theorem dX12_clears_24 : decode cX12_clears 24 = .ok (.iconst 4, 1) := by decide +kernel
theorem dX12_clears_25 : decode cX12_clears 25 = .ok (.if_icmp .ge 27, 3) := by decide +kernel
theorem dX12_clears_28 : decode cX12_clears 28 = .ok (.aload_n 0, 1) := by decide +kernel
theorem dX12_clears_29 : decode cX12_clears 29 = .ok (.getfield 61, 3) := by decide +kernel
theorem dX12_clears_32 : decode cX12_clears 32 = .ok (.iconst 4, 1) := by decide +kernel
theorem dX12_clears_33 : decode cX12_clears 33 = .ok (.iload_n 1, 1) := by decide +kernel
theorem dX12_clears_34 : decode cX12_clears 34 = .ok (.iadd, 1) := by decide +kernel
theorem dX12_clears_35 : decode cX12_clears 35 = .ok (.iconst 0, 1) := by decide +kernel
theorem dX12_clears_36 : decode cX12_clears 36 = .ok (.iastore, 1) := by decide +kernel
theorem dX12_clears_37 : decode cX12_clears 37 = .ok (.aload_n 0, 1) := by decide +kernel
theorem dX12_clears_38 : decode cX12_clears 38 = .ok (.getfield 64, 3) := by decide +kernel
theorem dX12_clears_41 : decode cX12_clears 41 = .ok (.iconst 4, 1) := by decide +kernel
theorem dX12_clears_42 : decode cX12_clears 42 = .ok (.iload_n 1, 1) := by decide +kernel
theorem dX12_clears_43 : decode cX12_clears 43 = .ok (.iadd, 1) := by decide +kernel
theorem dX12_clears_44 : decode cX12_clears 44 = .ok (.iconst 0, 1) := by decide +kernel
theorem dX12_clears_45 : decode cX12_clears 45 = .ok (.iastore, 1) := by decide +kernel
theorem dX12_clears_46 : decode cX12_clears 46 = .ok (.iinc 1 1, 3) := by decide +kernel
theorem dX12_clears_49 : decode cX12_clears 49 = .ok (.goto (-26), 3) := by decide +kernel
theorem dX12_clears_52 : decode cX12_clears 52 = .ok (.iconst 3, 1) := by decide +kernel
theorem dX12_clears_53 : decode cX12_clears 53 = .ok (.istore_n 1, 1) := by decide +kernel
theorem dX12_clears_54 : decode cX12_clears 54 = .ok (.iload_n 1, 1) := by decide +kernel
theorem dX12_clears_55 : decode cX12_clears 55 = .ok (.bipush 6, 2) := by decide +kernel
theorem dX12_clears_57 : decode cX12_clears 57 = .ok (.if_icmp .ge 16, 3) := by decide +kernel
theorem dX12_clears_60 : decode cX12_clears 60 = .ok (.aload_n 0, 1) := by decide +kernel
theorem dX12_clears_61 : decode cX12_clears 61 = .ok (.getfield 67, 3) := by decide +kernel
theorem dX12_clears_64 : decode cX12_clears 64 = .ok (.iload_n 1, 1) := by decide +kernel
theorem dX12_clears_65 : decode cX12_clears 65 = .ok (.iconst 0, 1) := by decide +kernel
theorem dX12_clears_66 : decode cX12_clears 66 = .ok (.iastore, 1) := by decide +kernel
theorem dX12_clears_67 : decode cX12_clears 67 = .ok (.iinc 1 1, 3) := by decide +kernel
theorem dX12_clears_70 : decode cX12_clears 70 = .ok (.goto (-16), 3) := by decide +kernel
theorem dX12_clears_73 : decode cX12_clears 73 = .ok (.bipush 21, 2) := by decide +kernel
theorem dX12_clears_75 : decode cX12_clears 75 = .ok (.istore_n 1, 1) := by decide +kernel
theorem dX12_clears_76 : decode cX12_clears 76 = .ok (.iload_n 1, 1) := by decide +kernel
theorem dX12_clears_77 : decode cX12_clears 77 = .ok (.bipush 42, 2) := by decide +kernel
theorem dX12_clears_79 : decode cX12_clears 79 = .ok (.if_icmp .ge 23, 3) := by decide +kernel
theorem dX12_clears_82 : decode cX12_clears 82 = .ok (.aload_n 0, 1) := by decide +kernel
theorem dX12_clears_83 : decode cX12_clears 83 = .ok (.getfield 70, 3) := by decide +kernel
theorem dX12_clears_86 : decode cX12_clears 86 = .ok (.iload_n 1, 1) := by decide +kernel
theorem dX12_clears_87 : decode cX12_clears 87 = .ok (.iconst 0, 1) := by decide +kernel
theorem dX12_clears_88 : decode cX12_clears 88 = .ok (.iastore, 1) := by decide +kernel
theorem dX12_clears_89 : decode cX12_clears 89 = .ok (.aload_n 0, 1) := by decide +kernel
theorem dX12_clears_90 : decode cX12_clears 90 = .ok (.getfield 73, 3) := by decide +kernel
theorem dX12_clears_93 : decode cX12_clears 93 = .ok (.iload_n 1, 1) := by decide +kernel
theorem dX12_clears_94 : decode cX12_clears 94 = .ok (.iconst 0, 1) := by decide +kernel
theorem dX12_clears_95 : decode cX12_clears 95 = .ok (.iastore, 1) := by decide +kernel
theorem dX12_clears_96 : decode cX12_clears 96 = .ok (.iinc 1 1, 3) := by decide +kernel
theorem dX12_clears_99 : decode cX12_clears 99 = .ok (.goto (-23), 3) := by decide +kernel
theorem dX12_clears_102 : decode cX12_clears 102 = .ok (.bipush 40, 2) := by decide +kernel
theorem dX12_clears_104 : decode cX12_clears 104 = .ok (.istore_n 1, 1) := by decide +kernel
theorem dX12_clears_105 : decode cX12_clears 105 = .ok (.iload_n 1, 1) := by decide +kernel
theorem dX12_clears_106 : decode cX12_clears 106 = .ok (.bipush 80, 2) := by decide +kernel
theorem dX12_clears_108 : decode cX12_clears 108 = .ok (.if_icmp .ge 16, 3) := by decide +kernel
theorem dX12_clears_111 : decode cX12_clears 111 = .ok (.aload_n 0, 1) := by decide +kernel
theorem dX12_clears_112 : decode cX12_clears 112 = .ok (.getfield 79, 3) := by decide +kernel
theorem dX12_clears_115 : decode cX12_clears 115 = .ok (.iload_n 1, 1) := by decide +kernel
theorem dX12_clears_116 : decode cX12_clears 116 = .ok (.iconst 0, 1) := by decide +kernel
theorem dX12_clears_117 : decode cX12_clears 117 = .ok (.bastore, 1) := by decide +kernel
theorem dX12_clears_118 : decode cX12_clears 118 = .ok (.iinc 1 1, 3) := by decide +kernel
theorem dX12_clears_121 : decode cX12_clears 121 = .ok (.goto (-16), 3) := by decide +kernel
theorem dX12_clears_124 : decode cX12_clears 124 = .ok (.return_, 1) := by decide +kernel
theorem dX12_copies_0 : decode cX12_copies 0 = .ok (.aload_n 0, 1) := by decide +kernel
theorem dX12_copies_1 : decode cX12_copies 1 = .ok (.getfield 7, 3) := by decide +kernel
theorem dX12_copies_4 : decode cX12_copies 4 = .ok (.iload_n 2, 1) := by decide +kernel
theorem dX12_copies_5 : decode cX12_copies 5 = .ok (.aload_n 0, 1) := by decide +kernel
theorem dX12_copies_6 : decode cX12_copies 6 = .ok (.getfield 7, 3) := by decide +kernel
theorem dX12_copies_9 : decode cX12_copies 9 = .ok (.iload_n 1, 1) := by decide +kernel
theorem dX12_copies_10 : decode cX12_copies 10 = .ok (.iaload, 1) := by decide +kernel
theorem dX12_copies_11 : decode cX12_copies 11 = .ok (.iastore, 1) := by decide +kernel
theorem dX12_copies_12 : decode cX12_copies 12 = .ok (.aload_n 0, 1) := by decide +kernel
theorem dX12_copies_13 : decode cX12_copies 13 = .ok (.getfield 13, 3) := by decide +kernel
theorem dX12_copies_16 : decode cX12_copies 16 = .ok (.iload_n 2, 1) := by decide +kernel
theorem dX12_copies_17 : decode cX12_copies 17 = .ok (.aload_n 0, 1) := by decide +kernel
theorem dX12_copies_18 : decode cX12_copies 18 = .ok (.getfield 13, 3) := by decide +kernel
theorem dX12_copies_21 : decode cX12_copies 21 = .ok (.iload_n 1, 1) := by decide +kernel
theorem dX12_copies_22 : decode cX12_copies 22 = .ok (.iaload, 1) := by decide +kernel
theorem dX12_copies_23 : decode cX12_copies 23 = .ok (.iastore, 1) := by decide +kernel
theorem dX12_copies_24 : decode cX12_copies 24 = .ok (.aload_n 0, 1) := by decide +kernel
theorem dX12_copies_25 : decode cX12_copies 25 = .ok (.getfield 16, 3) := by decide +kernel
theorem dX12_copies_28 : decode cX12_copies 28 = .ok (.iload_n 2, 1) := by decide +kernel
theorem dX12_copies_29 : decode cX12_copies 29 = .ok (.aload_n 0, 1) := by decide +kernel
theorem dX12_copies_30 : decode cX12_copies 30 = .ok (.getfield 16, 3) := by decide +kernel
theorem dX12_copies_33 : decode cX12_copies 33 = .ok (.iload_n 1, 1) := by decide +kernel
theorem dX12_copies_34 : decode cX12_copies 34 = .ok (.iaload, 1) := by decide +kernel
theorem dX12_copies_35 : decode cX12_copies 35 = .ok (.iastore, 1) := by decide +kernel
theorem dX12_copies_36 : decode cX12_copies 36 = .ok (.aload_n 0, 1) := by decide +kernel
theorem dX12_copies_37 : decode cX12_copies 37 = .ok (.getfield 19, 3) := by decide +kernel
theorem dX12_copies_40 : decode cX12_copies 40 = .ok (.iload_n 2, 1) := by decide +kernel
theorem dX12_copies_41 : decode cX12_copies 41 = .ok (.aload_n 0, 1) := by decide +kernel
theorem dX12_copies_42 : decode cX12_copies 42 = .ok (.getfield 19, 3) := by decide +kernel
theorem dX12_copies_45 : decode cX12_copies 45 = .ok (.iload_n 1, 1) := by decide +kernel
theorem dX12_copies_46 : decode cX12_copies 46 = .ok (.laload, 1) := by decide +kernel
theorem dX12_copies_47 : decode cX12_copies 47 = .ok (.lastore, 1) := by decide +kernel
theorem dX12_copies_48 : decode cX12_copies 48 = .ok (.iconst 0, 1) := by decide +kernel
theorem dX12_copies_49 : decode cX12_copies 49 = .ok (.istore_n 3, 1) := by decide +kernel
theorem dX12_copies_50 : decode cX12_copies 50 = .ok (.iload_n 3, 1) := by decide +kernel
theorem dX12_copies_51 : decode cX12_copies 51 = .ok (.bipush 80, 2) := by decide +kernel
theorem dX12_copies_53 : decode cX12_copies 53 = .ok (.if_icmp .ge 31, 3) := by decide +kernel
theorem dX12_copies_56 : decode cX12_copies 56 = .ok (.aload_n 0, 1) := by decide +kernel
theorem dX12_copies_57 : decode cX12_copies 57 = .ok (.getfield 23, 3) := by decide +kernel
theorem dX12_copies_60 : decode cX12_copies 60 = .ok (.bipush 80, 2) := by decide +kernel
theorem dX12_copies_62 : decode cX12_copies 62 = .ok (.iload_n 2, 1) := by decide +kernel
theorem dX12_copies_63 : decode cX12_copies 63 = .ok (.imul, 1) := by decide +kernel
theorem dX12_copies_64 : decode cX12_copies 64 = .ok (.iload_n 3, 1) := by decide +kernel
theorem dX12_copies_65 : decode cX12_copies 65 = .ok (.iadd, 1) := by decide +kernel
theorem dX12_copies_66 : decode cX12_copies 66 = .ok (.aload_n 0, 1) := by decide +kernel
theorem dX12_copies_67 : decode cX12_copies 67 = .ok (.getfield 23, 3) := by decide +kernel
theorem dX12_copies_70 : decode cX12_copies 70 = .ok (.bipush 80, 2) := by decide +kernel
theorem dX12_copies_72 : decode cX12_copies 72 = .ok (.iload_n 1, 1) := by decide +kernel
theorem dX12_copies_73 : decode cX12_copies 73 = .ok (.imul, 1) := by decide +kernel
theorem dX12_copies_74 : decode cX12_copies 74 = .ok (.iload_n 3, 1) := by decide +kernel
theorem dX12_copies_75 : decode cX12_copies 75 = .ok (.iadd, 1) := by decide +kernel
theorem dX12_copies_76 : decode cX12_copies 76 = .ok (.iaload, 1) := by decide +kernel
theorem dX12_copies_77 : decode cX12_copies 77 = .ok (.iastore, 1) := by decide +kernel
theorem dX12_copies_78 : decode cX12_copies 78 = .ok (.iinc 3 1, 3) := by decide +kernel
theorem dX12_copies_81 : decode cX12_copies 81 = .ok (.goto (-31), 3) := by decide +kernel
theorem dX12_copies_84 : decode cX12_copies 84 = .ok (.iconst 0, 1) := by decide +kernel
theorem dX12_copies_85 : decode cX12_copies 85 = .ok (.istore_n 3, 1) := by decide +kernel
theorem dX12_copies_86 : decode cX12_copies 86 = .ok (.iload_n 3, 1) := by decide +kernel
theorem dX12_copies_87 : decode cX12_copies 87 = .ok (.bipush 24, 2) := by decide +kernel
theorem dX12_copies_89 : decode cX12_copies 89 = .ok (.if_icmp .ge 31, 3) := by decide +kernel
theorem dX12_copies_92 : decode cX12_copies 92 = .ok (.aload_n 0, 1) := by decide +kernel
theorem dX12_copies_93 : decode cX12_copies 93 = .ok (.getfield 26, 3) := by decide +kernel
theorem dX12_copies_96 : decode cX12_copies 96 = .ok (.bipush 24, 2) := by decide +kernel
theorem dX12_copies_98 : decode cX12_copies 98 = .ok (.iload_n 2, 1) := by decide +kernel
theorem dX12_copies_99 : decode cX12_copies 99 = .ok (.imul, 1) := by decide +kernel
theorem dX12_copies_100 : decode cX12_copies 100 = .ok (.iload_n 3, 1) := by decide +kernel
theorem dX12_copies_101 : decode cX12_copies 101 = .ok (.iadd, 1) := by decide +kernel
theorem dX12_copies_102 : decode cX12_copies 102 = .ok (.aload_n 0, 1) := by decide +kernel
theorem dX12_copies_103 : decode cX12_copies 103 = .ok (.getfield 26, 3) := by decide +kernel
theorem dX12_copies_106 : decode cX12_copies 106 = .ok (.bipush 24, 2) := by decide +kernel
theorem dX12_copies_108 : decode cX12_copies 108 = .ok (.iload_n 1, 1) := by decide +kernel
theorem dX12_copies_109 : decode cX12_copies 109 = .ok (.imul, 1) := by decide +kernel
theorem dX12_copies_110 : decode cX12_copies 110 = .ok (.iload_n 3, 1) := by decide +kernel
theorem dX12_copies_111 : decode cX12_copies 111 = .ok (.iadd, 1) := by decide +kernel
theorem dX12_copies_112 : decode cX12_copies 112 = .ok (.iaload, 1) := by decide +kernel
theorem dX12_copies_113 : decode cX12_copies 113 = .ok (.iastore, 1) := by decide +kernel
theorem dX12_copies_114 : decode cX12_copies 114 = .ok (.iinc 3 1, 3) := by decide +kernel
theorem dX12_copies_117 : decode cX12_copies 117 = .ok (.goto (-31), 3) := by decide +kernel
theorem dX12_copies_120 : decode cX12_copies 120 = .ok (.iconst 0, 1) := by decide +kernel
theorem dX12_copies_121 : decode cX12_copies 121 = .ok (.istore_n 3, 1) := by decide +kernel
theorem dX12_copies_122 : decode cX12_copies 122 = .ok (.iload_n 3, 1) := by decide +kernel
theorem dX12_copies_123 : decode cX12_copies 123 = .ok (.bipush 40, 2) := by decide +kernel
theorem dX12_copies_125 : decode cX12_copies 125 = .ok (.if_icmp .ge 31, 3) := by decide +kernel
theorem dX12_copies_128 : decode cX12_copies 128 = .ok (.aload_n 0, 1) := by decide +kernel
theorem dX12_copies_129 : decode cX12_copies 129 = .ok (.getfield 29, 3) := by decide +kernel
theorem dX12_copies_132 : decode cX12_copies 132 = .ok (.bipush 40, 2) := by decide +kernel
theorem dX12_copies_134 : decode cX12_copies 134 = .ok (.iload_n 2, 1) := by decide +kernel
theorem dX12_copies_135 : decode cX12_copies 135 = .ok (.imul, 1) := by decide +kernel
theorem dX12_copies_136 : decode cX12_copies 136 = .ok (.iload_n 3, 1) := by decide +kernel
theorem dX12_copies_137 : decode cX12_copies 137 = .ok (.iadd, 1) := by decide +kernel
theorem dX12_copies_138 : decode cX12_copies 138 = .ok (.aload_n 0, 1) := by decide +kernel
theorem dX12_copies_139 : decode cX12_copies 139 = .ok (.getfield 29, 3) := by decide +kernel
theorem dX12_copies_142 : decode cX12_copies 142 = .ok (.bipush 40, 2) := by decide +kernel
theorem dX12_copies_144 : decode cX12_copies 144 = .ok (.iload_n 1, 1) := by decide +kernel
theorem dX12_copies_145 : decode cX12_copies 145 = .ok (.imul, 1) := by decide +kernel
theorem dX12_copies_146 : decode cX12_copies 146 = .ok (.iload_n 3, 1) := by decide +kernel
theorem dX12_copies_147 : decode cX12_copies 147 = .ok (.iadd, 1) := by decide +kernel
theorem dX12_copies_148 : decode cX12_copies 148 = .ok (.iaload, 1) := by decide +kernel
theorem dX12_copies_149 : decode cX12_copies 149 = .ok (.iastore, 1) := by decide +kernel
theorem dX12_copies_150 : decode cX12_copies 150 = .ok (.iinc 3 1, 3) := by decide +kernel
theorem dX12_copies_153 : decode cX12_copies 153 = .ok (.goto (-31), 3) := by decide +kernel
theorem dX12_copies_156 : decode cX12_copies 156 = .ok (.iconst 0, 1) := by decide +kernel
theorem dX12_copies_157 : decode cX12_copies 157 = .ok (.istore_n 3, 1) := by decide +kernel
theorem dX12_copies_158 : decode cX12_copies 158 = .ok (.iload_n 3, 1) := by decide +kernel
theorem dX12_copies_159 : decode cX12_copies 159 = .ok (.sipush 800, 3) := by decide +kernel
theorem dX12_copies_162 : decode cX12_copies 162 = .ok (.if_icmp .ge 57, 3) := by decide +kernel
theorem dX12_copies_165 : decode cX12_copies 165 = .ok (.aload_n 0, 1) := by decide +kernel
theorem dX12_copies_166 : decode cX12_copies 166 = .ok (.getfield 36, 3) := by decide +kernel
theorem dX12_copies_169 : decode cX12_copies 169 = .ok (.sipush 800, 3) := by decide +kernel
theorem dX12_copies_172 : decode cX12_copies 172 = .ok (.iload_n 2, 1) := by decide +kernel
theorem dX12_copies_173 : decode cX12_copies 173 = .ok (.imul, 1) := by decide +kernel
theorem dX12_copies_174 : decode cX12_copies 174 = .ok (.iload_n 3, 1) := by decide +kernel
theorem dX12_copies_175 : decode cX12_copies 175 = .ok (.iadd, 1) := by decide +kernel
theorem dX12_copies_176 : decode cX12_copies 176 = .ok (.aload_n 0, 1) := by decide +kernel
theorem dX12_copies_177 : decode cX12_copies 177 = .ok (.getfield 36, 3) := by decide +kernel
theorem dX12_copies_180 : decode cX12_copies 180 = .ok (.sipush 800, 3) := by decide +kernel
theorem dX12_copies_183 : decode cX12_copies 183 = .ok (.iload_n 1, 1) := by decide +kernel
theorem dX12_copies_184 : decode cX12_copies 184 = .ok (.imul, 1) := by decide +kernel
theorem dX12_copies_185 : decode cX12_copies 185 = .ok (.iload_n 3, 1) := by decide +kernel
theorem dX12_copies_186 : decode cX12_copies 186 = .ok (.iadd, 1) := by decide +kernel
theorem dX12_copies_187 : decode cX12_copies 187 = .ok (.baload, 1) := by decide +kernel
theorem dX12_copies_188 : decode cX12_copies 188 = .ok (.bastore, 1) := by decide +kernel
theorem dX12_copies_189 : decode cX12_copies 189 = .ok (.aload_n 0, 1) := by decide +kernel
theorem dX12_copies_190 : decode cX12_copies 190 = .ok (.getfield 46, 3) := by decide +kernel
theorem dX12_copies_193 : decode cX12_copies 193 = .ok (.sipush 800, 3) := by decide +kernel
theorem dX12_copies_196 : decode cX12_copies 196 = .ok (.iload_n 2, 1) := by decide +kernel
theorem dX12_copies_197 : decode cX12_copies 197 = .ok (.imul, 1) := by decide +kernel
theorem dX12_copies_198 : decode cX12_copies 198 = .ok (.iload_n 3, 1) := by decide +kernel
theorem dX12_copies_199 : decode cX12_copies 199 = .ok (.iadd, 1) := by decide +kernel
theorem dX12_copies_200 : decode cX12_copies 200 = .ok (.aload_n 0, 1) := by decide +kernel
theorem dX12_copies_201 : decode cX12_copies 201 = .ok (.getfield 46, 3) := by decide +kernel
theorem dX12_copies_204 : decode cX12_copies 204 = .ok (.sipush 800, 3) := by decide +kernel
theorem dX12_copies_207 : decode cX12_copies 207 = .ok (.iload_n 1, 1) := by decide +kernel
theorem dX12_copies_208 : decode cX12_copies 208 = .ok (.imul, 1) := by decide +kernel
theorem dX12_copies_209 : decode cX12_copies 209 = .ok (.iload_n 3, 1) := by decide +kernel
theorem dX12_copies_210 : decode cX12_copies 210 = .ok (.iadd, 1) := by decide +kernel
theorem dX12_copies_211 : decode cX12_copies 211 = .ok (.iaload, 1) := by decide +kernel
theorem dX12_copies_212 : decode cX12_copies 212 = .ok (.iastore, 1) := by decide +kernel
theorem dX12_copies_213 : decode cX12_copies 213 = .ok (.iinc 3 1, 3) := by decide +kernel
theorem dX12_copies_216 : decode cX12_copies 216 = .ok (.goto (-58), 3) := by decide +kernel
theorem dX12_copies_219 : decode cX12_copies 219 = .ok (.iconst 0, 1) := by decide +kernel
theorem dX12_copies_220 : decode cX12_copies 220 = .ok (.istore_n 3, 1) := by decide +kernel
theorem dX12_copies_221 : decode cX12_copies 221 = .ok (.iload_n 3, 1) := by decide +kernel
theorem dX12_copies_222 : decode cX12_copies 222 = .ok (.sipush 3200, 3) := by decide +kernel
theorem dX12_copies_225 : decode cX12_copies 225 = .ok (.if_icmp .ge 57, 3) := by decide +kernel
theorem dX12_copies_228 : decode cX12_copies 228 = .ok (.aload_n 0, 1) := by decide +kernel
theorem dX12_copies_229 : decode cX12_copies 229 = .ok (.getfield 32, 3) := by decide +kernel
theorem dX12_copies_232 : decode cX12_copies 232 = .ok (.sipush 3200, 3) := by decide +kernel
theorem dX12_copies_235 : decode cX12_copies 235 = .ok (.iload_n 2, 1) := by decide +kernel
theorem dX12_copies_236 : decode cX12_copies 236 = .ok (.imul, 1) := by decide +kernel
theorem dX12_copies_237 : decode cX12_copies 237 = .ok (.iload_n 3, 1) := by decide +kernel
theorem dX12_copies_238 : decode cX12_copies 238 = .ok (.iadd, 1) := by decide +kernel
theorem dX12_copies_239 : decode cX12_copies 239 = .ok (.aload_n 0, 1) := by decide +kernel
theorem dX12_copies_240 : decode cX12_copies 240 = .ok (.getfield 32, 3) := by decide +kernel
theorem dX12_copies_243 : decode cX12_copies 243 = .ok (.sipush 3200, 3) := by decide +kernel
theorem dX12_copies_246 : decode cX12_copies 246 = .ok (.iload_n 1, 1) := by decide +kernel
theorem dX12_copies_247 : decode cX12_copies 247 = .ok (.imul, 1) := by decide +kernel
theorem dX12_copies_248 : decode cX12_copies 248 = .ok (.iload_n 3, 1) := by decide +kernel
theorem dX12_copies_249 : decode cX12_copies 249 = .ok (.iadd, 1) := by decide +kernel
theorem dX12_copies_250 : decode cX12_copies 250 = .ok (.baload, 1) := by decide +kernel
theorem dX12_copies_251 : decode cX12_copies 251 = .ok (.bastore, 1) := by decide +kernel
theorem dX12_copies_252 : decode cX12_copies 252 = .ok (.aload_n 0, 1) := by decide +kernel
theorem dX12_copies_253 : decode cX12_copies 253 = .ok (.getfield 39, 3) := by decide +kernel
theorem dX12_copies_256 : decode cX12_copies 256 = .ok (.sipush 3200, 3) := by decide +kernel
theorem dX12_copies_259 : decode cX12_copies 259 = .ok (.iload_n 2, 1) := by decide +kernel
theorem dX12_copies_260 : decode cX12_copies 260 = .ok (.imul, 1) := by decide +kernel
theorem dX12_copies_261 : decode cX12_copies 261 = .ok (.iload_n 3, 1) := by decide +kernel
theorem dX12_copies_262 : decode cX12_copies 262 = .ok (.iadd, 1) := by decide +kernel
theorem dX12_copies_263 : decode cX12_copies 263 = .ok (.aload_n 0, 1) := by decide +kernel
theorem dX12_copies_264 : decode cX12_copies 264 = .ok (.getfield 39, 3) := by decide +kernel
theorem dX12_copies_267 : decode cX12_copies 267 = .ok (.sipush 3200, 3) := by decide +kernel
theorem dX12_copies_270 : decode cX12_copies 270 = .ok (.iload_n 1, 1) := by decide +kernel
theorem dX12_copies_271 : decode cX12_copies 271 = .ok (.imul, 1) := by decide +kernel
theorem dX12_copies_272 : decode cX12_copies 272 = .ok (.iload_n 3, 1) := by decide +kernel
theorem dX12_copies_273 : decode cX12_copies 273 = .ok (.iadd, 1) := by decide +kernel
theorem dX12_copies_274 : decode cX12_copies 274 = .ok (.iaload, 1) := by decide +kernel
theorem dX12_copies_275 : decode cX12_copies 275 = .ok (.iastore, 1) := by decide +kernel
theorem dX12_copies_276 : decode cX12_copies 276 = .ok (.iinc 3 1, 3) := by decide +kernel
theorem dX12_copies_279 : decode cX12_copies 279 = .ok (.goto (-58), 3) := by decide +kernel
theorem dX12_copies_282 : decode cX12_copies 282 = .ok (.iconst 0, 1) := by decide +kernel
theorem dX12_copies_283 : decode cX12_copies 283 = .ok (.istore_n 3, 1) := by decide +kernel
theorem dX12_copies_284 : decode cX12_copies 284 = .ok (.iload_n 3, 1) := by decide +kernel
theorem dX12_copies_285 : decode cX12_copies 285 = .ok (.sipush 12800, 3) := by decide +kernel
theorem dX12_copies_288 : decode cX12_copies 288 = .ok (.if_icmp .ge 33, 3) := by decide +kernel
theorem dX12_copies_291 : decode cX12_copies 291 = .ok (.aload_n 0, 1) := by decide +kernel
theorem dX12_copies_292 : decode cX12_copies 292 = .ok (.getfield 43, 3) := by decide +kernel
theorem dX12_copies_295 : decode cX12_copies 295 = .ok (.sipush 12800, 3) := by decide +kernel
theorem dX12_copies_298 : decode cX12_copies 298 = .ok (.iload_n 2, 1) := by decide +kernel
theorem dX12_copies_299 : decode cX12_copies 299 = .ok (.imul, 1) := by decide +kernel
theorem dX12_copies_300 : decode cX12_copies 300 = .ok (.iload_n 3, 1) := by decide +kernel
theorem dX12_copies_301 : decode cX12_copies 301 = .ok (.iadd, 1) := by decide +kernel
theorem dX12_copies_302 : decode cX12_copies 302 = .ok (.aload_n 0, 1) := by decide +kernel
theorem dX12_copies_303 : decode cX12_copies 303 = .ok (.getfield 43, 3) := by decide +kernel
theorem dX12_copies_306 : decode cX12_copies 306 = .ok (.sipush 12800, 3) := by decide +kernel
theorem dX12_copies_309 : decode cX12_copies 309 = .ok (.iload_n 1, 1) := by decide +kernel
theorem dX12_copies_310 : decode cX12_copies 310 = .ok (.imul, 1) := by decide +kernel
theorem dX12_copies_311 : decode cX12_copies 311 = .ok (.iload_n 3, 1) := by decide +kernel
theorem dX12_copies_312 : decode cX12_copies 312 = .ok (.iadd, 1) := by decide +kernel
theorem dX12_copies_313 : decode cX12_copies 313 = .ok (.iaload, 1) := by decide +kernel
theorem dX12_copies_314 : decode cX12_copies 314 = .ok (.iastore, 1) := by decide +kernel
theorem dX12_copies_315 : decode cX12_copies 315 = .ok (.iinc 3 1, 3) := by decide +kernel
theorem dX12_copies_318 : decode cX12_copies 318 = .ok (.goto (-34), 3) := by decide +kernel
theorem dX12_copies_321 : decode cX12_copies 321 = .ok (.return_, 1) := by decide +kernel
theorem dX12_here_0 : decode cX12_here 0 = .ok (.aload_n 0, 1) := by decide +kernel
theorem dX12_here_1 : decode cX12_here 1 = .ok (.getfield 209, 3) := by decide +kernel
theorem dX12_here_4 : decode cX12_here 4 = .ok (.aload_n 0, 1) := by decide +kernel
theorem dX12_here_5 : decode cX12_here 5 = .ok (.getfield 212, 3) := by decide +kernel
theorem dX12_here_8 : decode cX12_here 8 = .ok (.if_icmp .ge 19, 3) := by decide +kernel
theorem dX12_here_27 : decode cX12_here 27 = .ok (.iconst (-1), 1) := by decide +kernel
theorem dX12_here_28 : decode cX12_here 28 = .ok (.ireturn, 1) := by decide +kernel
theorem dX12_image_0 : decode cX12_image 0 = .ok (.aload_n 0, 1) := by decide +kernel
theorem dX12_image_1 : decode cX12_image 1 = .ok (.getfield 171, 3) := by decide +kernel
theorem dX12_image_4 : decode cX12_image 4 = .ok (.iconst 3, 1) := by decide +kernel
theorem dX12_image_5 : decode cX12_image 5 = .ok (.if_icmp .ne 9, 3) := by decide +kernel
theorem dX12_image_14 : decode cX12_image 14 = .ok (.aload_n 0, 1) := by decide +kernel
theorem dX12_image_15 : decode cX12_image 15 = .ok (.dup, 1) := by decide +kernel
theorem dX12_image_16 : decode cX12_image 16 = .ok (.getfield 171, 3) := by decide +kernel
theorem dX12_image_19 : decode cX12_image 19 = .ok (.iconst 1, 1) := by decide +kernel
theorem dX12_image_20 : decode cX12_image 20 = .ok (.iadd, 1) := by decide +kernel
theorem dX12_image_21 : decode cX12_image 21 = .ok (.putfield 171, 3) := by decide +kernel
theorem dX12_image_24 : decode cX12_image 24 = .ok (.aload_n 0, 1) := by decide +kernel
theorem dX12_image_25 : decode cX12_image 25 = .ok (.iconst 0, 1) := by decide +kernel
theorem dX12_image_26 : decode cX12_image 26 = .ok (.aload_n 0, 1) := by decide +kernel
theorem dX12_image_27 : decode cX12_image 27 = .ok (.getfield 171, 3) := by decide +kernel
theorem dX12_image_30 : decode cX12_image 30 = .ok (.invokevirtual 178, 3) := by decide +kernel
theorem dX12_image_33 : decode cX12_image 33 = .ok (.aload_n 0, 1) := by decide +kernel
theorem dX12_image_34 : decode cX12_image 34 = .ok (.getfield 171, 3) := by decide +kernel
theorem dX12_image_37 : decode cX12_image 37 = .ok (.iconst 1, 1) := by decide +kernel
theorem dX12_image_38 : decode cX12_image 38 = .ok (.isub, 1) := by decide +kernel
theorem dX12_image_39 : decode cX12_image 39 = .ok (.ireturn, 1) := by decide +kernel
theorem dX12_law_0 : decode cX12_law 0 = .ok (.iload_n 1, 1) := by decide +kernel
theorem dX12_law_1 : decode cX12_law 1 = .ok (.ifCond .lt 11, 3) := by decide +kernel
theorem dX12_law_4 : decode cX12_law 4 = .ok (.iload_n 1, 1) := by decide +kernel
theorem dX12_law_5 : decode cX12_law 5 = .ok (.aload_n 0, 1) := by decide +kernel
theorem dX12_law_6 : decode cX12_law 6 = .ok (.getfield 206, 3) := by decide +kernel
theorem dX12_law_9 : decode cX12_law 9 = .ok (.if_icmp .le 16, 3) := by decide +kernel
theorem dX12_law_12 : decode cX12_law 12 = .ok (.aload_n 0, 1) := by decide +kernel
theorem dX12_law_13 : decode cX12_law 13 = .ok (.getfield 49, 3) := by decide +kernel
theorem dX12_law_16 : decode cX12_law 16 = .ok (.iconst 0, 1) := by decide +kernel
theorem dX12_law_17 : decode cX12_law 17 = .ok (.dup2, 1) := by decide +kernel
theorem dX12_law_18 : decode cX12_law 18 = .ok (.iaload, 1) := by decide +kernel
theorem dX12_law_19 : decode cX12_law 19 = .ok (.iconst 1, 1) := by decide +kernel
theorem dX12_law_20 : decode cX12_law 20 = .ok (.iadd, 1) := by decide +kernel
theorem dX12_law_21 : decode cX12_law 21 = .ok (.iastore, 1) := by decide +kernel
theorem dX12_law_22 : decode cX12_law 22 = .ok (.bipush (-2), 2) := by decide +kernel
theorem dX12_law_24 : decode cX12_law 24 = .ok (.ireturn, 1) := by decide +kernel
theorem dX12_law_25 : decode cX12_law 25 = .ok (.aload_n 0, 1) := by decide +kernel
theorem dX12_law_26 : decode cX12_law 26 = .ok (.iload_n 1, 1) := by decide +kernel
theorem dX12_law_27 : decode cX12_law 27 = .ok (.putfield 212, 3) := by decide +kernel
theorem dX12_law_30 : decode cX12_law 30 = .ok (.aload_n 0, 1) := by decide +kernel
theorem dX12_law_31 : decode cX12_law 31 = .ok (.iconst 0, 1) := by decide +kernel
theorem dX12_law_32 : decode cX12_law 32 = .ok (.putfield 206, 3) := by decide +kernel
theorem dX12_law_35 : decode cX12_law 35 = .ok (.aload_n 0, 1) := by decide +kernel
theorem dX12_law_36 : decode cX12_law 36 = .ok (.iconst 0, 1) := by decide +kernel
theorem dX12_law_37 : decode cX12_law 37 = .ok (.putfield 209, 3) := by decide +kernel
theorem dX12_law_40 : decode cX12_law 40 = .ok (.aload_n 0, 1) := by decide +kernel
theorem dX12_law_41 : decode cX12_law 41 = .ok (.iconst (-1), 1) := by decide +kernel
theorem dX12_law_42 : decode cX12_law 42 = .ok (.putfield 119, 3) := by decide +kernel
theorem dX12_law_45 : decode cX12_law 45 = .ok (.aload_n 0, 1) := by decide +kernel
theorem dX12_law_46 : decode cX12_law 46 = .ok (.iconst 0, 1) := by decide +kernel
theorem dX12_law_47 : decode cX12_law 47 = .ok (.putfield 237, 3) := by decide +kernel
theorem dX12_law_50 : decode cX12_law 50 = .ok (.aload_n 0, 1) := by decide +kernel
theorem dX12_law_51 : decode cX12_law 51 = .ok (.sipush 1000, 3) := by decide +kernel
theorem dX12_law_54 : decode cX12_law 54 = .ok (.putfield 285, 3) := by decide +kernel
theorem dX12_law_57 : decode cX12_law 57 = .ok (.aload_n 0, 1) := by decide +kernel
theorem dX12_law_58 : decode cX12_law 58 = .ok (.invokevirtual 337, 3) := by decide +kernel
theorem dX12_law_61 : decode cX12_law 61 = .ok (.aload_n 0, 1) := by decide +kernel
theorem dX12_law_62 : decode cX12_law 62 = .ok (.invokevirtual 244, 3) := by decide +kernel
theorem dX12_law_65 : decode cX12_law 65 = .ok (.aload_n 0, 1) := by decide +kernel
theorem dX12_law_66 : decode cX12_law 66 = .ok (.getfield 231, 3) := by decide +kernel
theorem dX12_law_69 : decode cX12_law 69 = .ok (.ifCond .eq 17, 3) := by decide +kernel
theorem dX12_law_86 : decode cX12_law 86 = .ok (.aload_n 0, 1) := by decide +kernel
theorem dX12_law_87 : decode cX12_law 87 = .ok (.getfield 237, 3) := by decide +kernel
theorem dX12_law_90 : decode cX12_law 90 = .ok (.ifCond .eq 9, 3) := by decide +kernel
theorem dX12_law_99 : decode cX12_law 99 = .ok (.aload_n 0, 1) := by decide +kernel
theorem dX12_law_100 : decode cX12_law 100 = .ok (.invokevirtual 343, 3) := by decide +kernel
theorem dX12_law_103 : decode cX12_law 103 = .ok (.aload_n 0, 1) := by decide +kernel
theorem dX12_law_104 : decode cX12_law 104 = .ok (.getfield 52, 3) := by decide +kernel
theorem dX12_law_107 : decode cX12_law 107 = .ok (.iconst 0, 1) := by decide +kernel
theorem dX12_law_108 : decode cX12_law 108 = .ok (.iaload, 1) := by decide +kernel
theorem dX12_law_109 : decode cX12_law 109 = .ok (.ireturn, 1) := by decide +kernel
theorem dX12_next_0 : decode cX12_next 0 = .ok (.aload_n 0, 1) := by decide +kernel
theorem dX12_next_1 : decode cX12_next 1 = .ok (.invokevirtual 215, 3) := by decide +kernel
theorem dX12_next_4 : decode cX12_next 4 = .ok (.bipush 32, 2) := by decide +kernel
theorem dX12_next_6 : decode cX12_next 6 = .ok (.if_icmp .eq 12, 3) := by decide +kernel
theorem dX12_next_9 : decode cX12_next 9 = .ok (.aload_n 0, 1) := by decide +kernel
theorem dX12_next_10 : decode cX12_next 10 = .ok (.invokevirtual 215, 3) := by decide +kernel
theorem dX12_next_13 : decode cX12_next 13 = .ok (.bipush 10, 2) := by decide +kernel
theorem dX12_next_15 : decode cX12_next 15 = .ok (.if_icmp .ne 16, 3) := by decide +kernel
theorem dX12_next_31 : decode cX12_next 31 = .ok (.aload_n 0, 1) := by decide +kernel
theorem dX12_next_32 : decode cX12_next 32 = .ok (.aload_n 0, 1) := by decide +kernel
theorem dX12_next_33 : decode cX12_next 33 = .ok (.getfield 209, 3) := by decide +kernel
theorem dX12_next_36 : decode cX12_next 36 = .ok (.putfield 219, 3) := by decide +kernel
theorem dX12_next_39 : decode cX12_next 39 = .ok (.aload_n 0, 1) := by decide +kernel
theorem dX12_next_40 : decode cX12_next 40 = .ok (.invokevirtual 215, 3) := by decide +kernel
theorem dX12_next_43 : decode cX12_next 43 = .ok (.istore_n 1, 1) := by decide +kernel
theorem dX12_next_44 : decode cX12_next 44 = .ok (.aload_n 0, 1) := by decide +kernel
theorem dX12_next_45 : decode cX12_next 45 = .ok (.ldc2_w 222, 3) := by decide +kernel
theorem dX12_next_48 : decode cX12_next 48 = .ok (.putfield 224, 3) := by decide +kernel
theorem dX12_next_51 : decode cX12_next 51 = .ok (.aload_n 0, 1) := by decide +kernel
theorem dX12_next_52 : decode cX12_next 52 = .ok (.iconst 0, 1) := by decide +kernel
theorem dX12_next_53 : decode cX12_next 53 = .ok (.putfield 228, 3) := by decide +kernel
theorem dX12_next_56 : decode cX12_next 56 = .ok (.iload_n 1, 1) := by decide +kernel
theorem dX12_next_57 : decode cX12_next 57 = .ok (.ifCond .ge 11, 3) := by decide +kernel
theorem dX12_next_60 : decode cX12_next 60 = .ok (.aload_n 0, 1) := by decide +kernel
theorem dX12_next_61 : decode cX12_next 61 = .ok (.iconst 0, 1) := by decide +kernel
theorem dX12_next_62 : decode cX12_next 62 = .ok (.putfield 231, 3) := by decide +kernel
theorem dX12_next_65 : decode cX12_next 65 = .ok (.goto 238, 3) := by decide +kernel
theorem dX12_next_303 : decode cX12_next 303 = .ok (.return_, 1) := by decide +kernel
theorem dX12_takes_0 : decode cX12_takes 0 = .ok (.aload_n 0, 1) := by decide +kernel
theorem dX12_takes_1 : decode cX12_takes 1 = .ok (.getfield 52, 3) := by decide +kernel
theorem dX12_takes_4 : decode cX12_takes 4 = .ok (.iconst 0, 1) := by decide +kernel
theorem dX12_takes_5 : decode cX12_takes 5 = .ok (.aload_n 0, 1) := by decide +kernel
theorem dX12_takes_6 : decode cX12_takes 6 = .ok (.getfield 52, 3) := by decide +kernel
theorem dX12_takes_9 : decode cX12_takes 9 = .ok (.iconst 1, 1) := by decide +kernel
theorem dX12_takes_10 : decode cX12_takes 10 = .ok (.iaload, 1) := by decide +kernel
theorem dX12_takes_11 : decode cX12_takes 11 = .ok (.iastore, 1) := by decide +kernel
theorem dX12_takes_12 : decode cX12_takes 12 = .ok (.aload_n 0, 1) := by decide +kernel
theorem dX12_takes_13 : decode cX12_takes 13 = .ok (.getfield 55, 3) := by decide +kernel
theorem dX12_takes_16 : decode cX12_takes 16 = .ok (.iconst 0, 1) := by decide +kernel
theorem dX12_takes_17 : decode cX12_takes 17 = .ok (.aload_n 0, 1) := by decide +kernel
theorem dX12_takes_18 : decode cX12_takes 18 = .ok (.getfield 55, 3) := by decide +kernel
theorem dX12_takes_21 : decode cX12_takes 21 = .ok (.iconst 1, 1) := by decide +kernel
theorem dX12_takes_22 : decode cX12_takes 22 = .ok (.iaload, 1) := by decide +kernel
theorem dX12_takes_23 : decode cX12_takes 23 = .ok (.iastore, 1) := by decide +kernel
theorem dX12_takes_24 : decode cX12_takes 24 = .ok (.aload_n 0, 1) := by decide +kernel
theorem dX12_takes_25 : decode cX12_takes 25 = .ok (.getfield 58, 3) := by decide +kernel
theorem dX12_takes_28 : decode cX12_takes 28 = .ok (.iconst 0, 1) := by decide +kernel
theorem dX12_takes_29 : decode cX12_takes 29 = .ok (.aload_n 0, 1) := by decide +kernel
theorem dX12_takes_30 : decode cX12_takes 30 = .ok (.getfield 58, 3) := by decide +kernel
theorem dX12_takes_33 : decode cX12_takes 33 = .ok (.iconst 1, 1) := by decide +kernel
theorem dX12_takes_34 : decode cX12_takes 34 = .ok (.iaload, 1) := by decide +kernel
theorem dX12_takes_35 : decode cX12_takes 35 = .ok (.iastore, 1) := by decide +kernel
theorem dX12_takes_36 : decode cX12_takes 36 = .ok (.iconst 0, 1) := by decide +kernel
theorem dX12_takes_37 : decode cX12_takes 37 = .ok (.istore_n 1, 1) := by decide +kernel
theorem dX12_takes_38 : decode cX12_takes 38 = .ok (.iload_n 1, 1) := by decide +kernel
theorem dX12_takes_39 : decode cX12_takes 39 = .ok (.iconst 4, 1) := by decide +kernel
theorem dX12_takes_40 : decode cX12_takes 40 = .ok (.if_icmp .ge 37, 3) := by decide +kernel
theorem dX12_takes_43 : decode cX12_takes 43 = .ok (.aload_n 0, 1) := by decide +kernel
theorem dX12_takes_44 : decode cX12_takes 44 = .ok (.getfield 61, 3) := by decide +kernel
theorem dX12_takes_47 : decode cX12_takes 47 = .ok (.iload_n 1, 1) := by decide +kernel
theorem dX12_takes_48 : decode cX12_takes 48 = .ok (.aload_n 0, 1) := by decide +kernel
theorem dX12_takes_49 : decode cX12_takes 49 = .ok (.getfield 61, 3) := by decide +kernel
theorem dX12_takes_52 : decode cX12_takes 52 = .ok (.iconst 4, 1) := by decide +kernel
theorem dX12_takes_53 : decode cX12_takes 53 = .ok (.iload_n 1, 1) := by decide +kernel
theorem dX12_takes_54 : decode cX12_takes 54 = .ok (.iadd, 1) := by decide +kernel
theorem dX12_takes_55 : decode cX12_takes 55 = .ok (.iaload, 1) := by decide +kernel
theorem dX12_takes_56 : decode cX12_takes 56 = .ok (.iastore, 1) := by decide +kernel
theorem dX12_takes_57 : decode cX12_takes 57 = .ok (.aload_n 0, 1) := by decide +kernel
theorem dX12_takes_58 : decode cX12_takes 58 = .ok (.getfield 64, 3) := by decide +kernel
theorem dX12_takes_61 : decode cX12_takes 61 = .ok (.iload_n 1, 1) := by decide +kernel
theorem dX12_takes_62 : decode cX12_takes 62 = .ok (.aload_n 0, 1) := by decide +kernel
theorem dX12_takes_63 : decode cX12_takes 63 = .ok (.getfield 64, 3) := by decide +kernel
theorem dX12_takes_66 : decode cX12_takes 66 = .ok (.iconst 4, 1) := by decide +kernel
theorem dX12_takes_67 : decode cX12_takes 67 = .ok (.iload_n 1, 1) := by decide +kernel
theorem dX12_takes_68 : decode cX12_takes 68 = .ok (.iadd, 1) := by decide +kernel
theorem dX12_takes_69 : decode cX12_takes 69 = .ok (.iaload, 1) := by decide +kernel
theorem dX12_takes_70 : decode cX12_takes 70 = .ok (.iastore, 1) := by decide +kernel
theorem dX12_takes_71 : decode cX12_takes 71 = .ok (.iinc 1 1, 3) := by decide +kernel
theorem dX12_takes_74 : decode cX12_takes 74 = .ok (.goto (-36), 3) := by decide +kernel
theorem dX12_takes_77 : decode cX12_takes 77 = .ok (.iconst 0, 1) := by decide +kernel
theorem dX12_takes_78 : decode cX12_takes 78 = .ok (.istore_n 1, 1) := by decide +kernel
theorem dX12_takes_79 : decode cX12_takes 79 = .ok (.iload_n 1, 1) := by decide +kernel
theorem dX12_takes_80 : decode cX12_takes 80 = .ok (.iconst 3, 1) := by decide +kernel
theorem dX12_takes_81 : decode cX12_takes 81 = .ok (.if_icmp .ge 23, 3) := by decide +kernel
theorem dX12_takes_84 : decode cX12_takes 84 = .ok (.aload_n 0, 1) := by decide +kernel
theorem dX12_takes_85 : decode cX12_takes 85 = .ok (.getfield 67, 3) := by decide +kernel
theorem dX12_takes_88 : decode cX12_takes 88 = .ok (.iload_n 1, 1) := by decide +kernel
theorem dX12_takes_89 : decode cX12_takes 89 = .ok (.aload_n 0, 1) := by decide +kernel
theorem dX12_takes_90 : decode cX12_takes 90 = .ok (.getfield 67, 3) := by decide +kernel
theorem dX12_takes_93 : decode cX12_takes 93 = .ok (.iconst 3, 1) := by decide +kernel
theorem dX12_takes_94 : decode cX12_takes 94 = .ok (.iload_n 1, 1) := by decide +kernel
theorem dX12_takes_95 : decode cX12_takes 95 = .ok (.iadd, 1) := by decide +kernel
theorem dX12_takes_96 : decode cX12_takes 96 = .ok (.iaload, 1) := by decide +kernel
theorem dX12_takes_97 : decode cX12_takes 97 = .ok (.iastore, 1) := by decide +kernel
theorem dX12_takes_98 : decode cX12_takes 98 = .ok (.iinc 1 1, 3) := by decide +kernel
theorem dX12_takes_101 : decode cX12_takes 101 = .ok (.goto (-22), 3) := by decide +kernel
theorem dX12_takes_104 : decode cX12_takes 104 = .ok (.iconst 0, 1) := by decide +kernel
theorem dX12_takes_105 : decode cX12_takes 105 = .ok (.istore_n 1, 1) := by decide +kernel
theorem dX12_takes_106 : decode cX12_takes 106 = .ok (.iload_n 1, 1) := by decide +kernel
theorem dX12_takes_107 : decode cX12_takes 107 = .ok (.bipush 21, 2) := by decide +kernel
theorem dX12_takes_109 : decode cX12_takes 109 = .ok (.if_icmp .ge 39, 3) := by decide +kernel
theorem dX12_takes_112 : decode cX12_takes 112 = .ok (.aload_n 0, 1) := by decide +kernel
theorem dX12_takes_113 : decode cX12_takes 113 = .ok (.getfield 70, 3) := by decide +kernel
theorem dX12_takes_116 : decode cX12_takes 116 = .ok (.iload_n 1, 1) := by decide +kernel
theorem dX12_takes_117 : decode cX12_takes 117 = .ok (.aload_n 0, 1) := by decide +kernel
theorem dX12_takes_118 : decode cX12_takes 118 = .ok (.getfield 70, 3) := by decide +kernel
theorem dX12_takes_121 : decode cX12_takes 121 = .ok (.bipush 21, 2) := by decide +kernel
theorem dX12_takes_123 : decode cX12_takes 123 = .ok (.iload_n 1, 1) := by decide +kernel
theorem dX12_takes_124 : decode cX12_takes 124 = .ok (.iadd, 1) := by decide +kernel
theorem dX12_takes_125 : decode cX12_takes 125 = .ok (.iaload, 1) := by decide +kernel
theorem dX12_takes_126 : decode cX12_takes 126 = .ok (.iastore, 1) := by decide +kernel
theorem dX12_takes_127 : decode cX12_takes 127 = .ok (.aload_n 0, 1) := by decide +kernel
theorem dX12_takes_128 : decode cX12_takes 128 = .ok (.getfield 73, 3) := by decide +kernel
theorem dX12_takes_131 : decode cX12_takes 131 = .ok (.iload_n 1, 1) := by decide +kernel
theorem dX12_takes_132 : decode cX12_takes 132 = .ok (.aload_n 0, 1) := by decide +kernel
theorem dX12_takes_133 : decode cX12_takes 133 = .ok (.getfield 73, 3) := by decide +kernel
theorem dX12_takes_136 : decode cX12_takes 136 = .ok (.bipush 21, 2) := by decide +kernel
theorem dX12_takes_138 : decode cX12_takes 138 = .ok (.iload_n 1, 1) := by decide +kernel
theorem dX12_takes_139 : decode cX12_takes 139 = .ok (.iadd, 1) := by decide +kernel
theorem dX12_takes_140 : decode cX12_takes 140 = .ok (.iaload, 1) := by decide +kernel
theorem dX12_takes_141 : decode cX12_takes 141 = .ok (.iastore, 1) := by decide +kernel
theorem dX12_takes_142 : decode cX12_takes 142 = .ok (.iinc 1 1, 3) := by decide +kernel
theorem dX12_takes_145 : decode cX12_takes 145 = .ok (.goto (-39), 3) := by decide +kernel
theorem dX12_takes_148 : decode cX12_takes 148 = .ok (.iconst 0, 1) := by decide +kernel
theorem dX12_takes_149 : decode cX12_takes 149 = .ok (.istore_n 1, 1) := by decide +kernel
theorem dX12_takes_150 : decode cX12_takes 150 = .ok (.iload_n 1, 1) := by decide +kernel
theorem dX12_takes_151 : decode cX12_takes 151 = .ok (.bipush 40, 2) := by decide +kernel
theorem dX12_takes_153 : decode cX12_takes 153 = .ok (.if_icmp .ge 152, 3) := by decide +kernel
theorem dX12_takes_156 : decode cX12_takes 156 = .ok (.aload_n 0, 1) := by decide +kernel
theorem dX12_takes_157 : decode cX12_takes 157 = .ok (.getfield 79, 3) := by decide +kernel
theorem dX12_takes_160 : decode cX12_takes 160 = .ok (.iload_n 1, 1) := by decide +kernel
theorem dX12_takes_161 : decode cX12_takes 161 = .ok (.aload_n 0, 1) := by decide +kernel
theorem dX12_takes_162 : decode cX12_takes 162 = .ok (.getfield 79, 3) := by decide +kernel
theorem dX12_takes_165 : decode cX12_takes 165 = .ok (.bipush 40, 2) := by decide +kernel
theorem dX12_takes_167 : decode cX12_takes 167 = .ok (.iload_n 1, 1) := by decide +kernel
theorem dX12_takes_168 : decode cX12_takes 168 = .ok (.iadd, 1) := by decide +kernel
theorem dX12_takes_169 : decode cX12_takes 169 = .ok (.baload, 1) := by decide +kernel
theorem dX12_takes_170 : decode cX12_takes 170 = .ok (.bastore, 1) := by decide +kernel
theorem dX12_takes_171 : decode cX12_takes 171 = .ok (.aload_n 0, 1) := by decide +kernel
theorem dX12_takes_172 : decode cX12_takes 172 = .ok (.getfield 76, 3) := by decide +kernel
theorem dX12_takes_175 : decode cX12_takes 175 = .ok (.iload_n 1, 1) := by decide +kernel
theorem dX12_takes_176 : decode cX12_takes 176 = .ok (.aload_n 0, 1) := by decide +kernel
theorem dX12_takes_177 : decode cX12_takes 177 = .ok (.getfield 76, 3) := by decide +kernel
theorem dX12_takes_180 : decode cX12_takes 180 = .ok (.bipush 40, 2) := by decide +kernel
theorem dX12_takes_182 : decode cX12_takes 182 = .ok (.iload_n 1, 1) := by decide +kernel
theorem dX12_takes_183 : decode cX12_takes 183 = .ok (.iadd, 1) := by decide +kernel
theorem dX12_takes_184 : decode cX12_takes 184 = .ok (.iaload, 1) := by decide +kernel
theorem dX12_takes_185 : decode cX12_takes 185 = .ok (.iastore, 1) := by decide +kernel
theorem dX12_takes_186 : decode cX12_takes 186 = .ok (.aload_n 0, 1) := by decide +kernel
theorem dX12_takes_187 : decode cX12_takes 187 = .ok (.getfield 82, 3) := by decide +kernel
theorem dX12_takes_190 : decode cX12_takes 190 = .ok (.iload_n 1, 1) := by decide +kernel
theorem dX12_takes_191 : decode cX12_takes 191 = .ok (.aload_n 0, 1) := by decide +kernel
theorem dX12_takes_192 : decode cX12_takes 192 = .ok (.getfield 82, 3) := by decide +kernel
theorem dX12_takes_195 : decode cX12_takes 195 = .ok (.bipush 40, 2) := by decide +kernel
theorem dX12_takes_197 : decode cX12_takes 197 = .ok (.iload_n 1, 1) := by decide +kernel
theorem dX12_takes_198 : decode cX12_takes 198 = .ok (.iadd, 1) := by decide +kernel
theorem dX12_takes_199 : decode cX12_takes 199 = .ok (.iaload, 1) := by decide +kernel
theorem dX12_takes_200 : decode cX12_takes 200 = .ok (.iastore, 1) := by decide +kernel
theorem dX12_takes_201 : decode cX12_takes 201 = .ok (.aload_n 0, 1) := by decide +kernel
theorem dX12_takes_202 : decode cX12_takes 202 = .ok (.getfield 85, 3) := by decide +kernel
theorem dX12_takes_205 : decode cX12_takes 205 = .ok (.iload_n 1, 1) := by decide +kernel
theorem dX12_takes_206 : decode cX12_takes 206 = .ok (.aload_n 0, 1) := by decide +kernel
theorem dX12_takes_207 : decode cX12_takes 207 = .ok (.getfield 85, 3) := by decide +kernel
theorem dX12_takes_210 : decode cX12_takes 210 = .ok (.bipush 40, 2) := by decide +kernel
theorem dX12_takes_212 : decode cX12_takes 212 = .ok (.iload_n 1, 1) := by decide +kernel
theorem dX12_takes_213 : decode cX12_takes 213 = .ok (.iadd, 1) := by decide +kernel
theorem dX12_takes_214 : decode cX12_takes 214 = .ok (.iaload, 1) := by decide +kernel
theorem dX12_takes_215 : decode cX12_takes 215 = .ok (.iastore, 1) := by decide +kernel
theorem dX12_takes_216 : decode cX12_takes 216 = .ok (.aload_n 0, 1) := by decide +kernel
theorem dX12_takes_217 : decode cX12_takes 217 = .ok (.getfield 88, 3) := by decide +kernel
theorem dX12_takes_220 : decode cX12_takes 220 = .ok (.iload_n 1, 1) := by decide +kernel
theorem dX12_takes_221 : decode cX12_takes 221 = .ok (.aload_n 0, 1) := by decide +kernel
theorem dX12_takes_222 : decode cX12_takes 222 = .ok (.getfield 88, 3) := by decide +kernel
theorem dX12_takes_225 : decode cX12_takes 225 = .ok (.bipush 40, 2) := by decide +kernel
theorem dX12_takes_227 : decode cX12_takes 227 = .ok (.iload_n 1, 1) := by decide +kernel
theorem dX12_takes_228 : decode cX12_takes 228 = .ok (.iadd, 1) := by decide +kernel
theorem dX12_takes_229 : decode cX12_takes 229 = .ok (.iaload, 1) := by decide +kernel
theorem dX12_takes_230 : decode cX12_takes 230 = .ok (.iastore, 1) := by decide +kernel
theorem dX12_takes_231 : decode cX12_takes 231 = .ok (.aload_n 0, 1) := by decide +kernel
theorem dX12_takes_232 : decode cX12_takes 232 = .ok (.getfield 91, 3) := by decide +kernel
theorem dX12_takes_235 : decode cX12_takes 235 = .ok (.iload_n 1, 1) := by decide +kernel
theorem dX12_takes_236 : decode cX12_takes 236 = .ok (.aload_n 0, 1) := by decide +kernel
theorem dX12_takes_237 : decode cX12_takes 237 = .ok (.getfield 91, 3) := by decide +kernel
theorem dX12_takes_240 : decode cX12_takes 240 = .ok (.bipush 40, 2) := by decide +kernel
theorem dX12_takes_242 : decode cX12_takes 242 = .ok (.iload_n 1, 1) := by decide +kernel
theorem dX12_takes_243 : decode cX12_takes 243 = .ok (.iadd, 1) := by decide +kernel
theorem dX12_takes_244 : decode cX12_takes 244 = .ok (.iaload, 1) := by decide +kernel
theorem dX12_takes_245 : decode cX12_takes 245 = .ok (.iastore, 1) := by decide +kernel
theorem dX12_takes_246 : decode cX12_takes 246 = .ok (.aload_n 0, 1) := by decide +kernel
theorem dX12_takes_247 : decode cX12_takes 247 = .ok (.getfield 94, 3) := by decide +kernel
theorem dX12_takes_250 : decode cX12_takes 250 = .ok (.iload_n 1, 1) := by decide +kernel
theorem dX12_takes_251 : decode cX12_takes 251 = .ok (.aload_n 0, 1) := by decide +kernel
theorem dX12_takes_252 : decode cX12_takes 252 = .ok (.getfield 94, 3) := by decide +kernel
theorem dX12_takes_255 : decode cX12_takes 255 = .ok (.bipush 40, 2) := by decide +kernel
theorem dX12_takes_257 : decode cX12_takes 257 = .ok (.iload_n 1, 1) := by decide +kernel
theorem dX12_takes_258 : decode cX12_takes 258 = .ok (.iadd, 1) := by decide +kernel
theorem dX12_takes_259 : decode cX12_takes 259 = .ok (.iaload, 1) := by decide +kernel
theorem dX12_takes_260 : decode cX12_takes 260 = .ok (.iastore, 1) := by decide +kernel
theorem dX12_takes_261 : decode cX12_takes 261 = .ok (.aload_n 0, 1) := by decide +kernel
theorem dX12_takes_262 : decode cX12_takes 262 = .ok (.getfield 97, 3) := by decide +kernel
theorem dX12_takes_265 : decode cX12_takes 265 = .ok (.iload_n 1, 1) := by decide +kernel
theorem dX12_takes_266 : decode cX12_takes 266 = .ok (.aload_n 0, 1) := by decide +kernel
theorem dX12_takes_267 : decode cX12_takes 267 = .ok (.getfield 97, 3) := by decide +kernel
theorem dX12_takes_270 : decode cX12_takes 270 = .ok (.bipush 40, 2) := by decide +kernel
theorem dX12_takes_272 : decode cX12_takes 272 = .ok (.iload_n 1, 1) := by decide +kernel
theorem dX12_takes_273 : decode cX12_takes 273 = .ok (.iadd, 1) := by decide +kernel
theorem dX12_takes_274 : decode cX12_takes 274 = .ok (.iaload, 1) := by decide +kernel
theorem dX12_takes_275 : decode cX12_takes 275 = .ok (.sipush 1000, 3) := by decide +kernel
theorem dX12_takes_278 : decode cX12_takes 278 = .ok (.isub, 1) := by decide +kernel
theorem dX12_takes_279 : decode cX12_takes 279 = .ok (.iastore, 1) := by decide +kernel
theorem dX12_takes_280 : decode cX12_takes 280 = .ok (.aload_n 0, 1) := by decide +kernel
theorem dX12_takes_281 : decode cX12_takes 281 = .ok (.getfield 100, 3) := by decide +kernel
theorem dX12_takes_284 : decode cX12_takes 284 = .ok (.iload_n 1, 1) := by decide +kernel
theorem dX12_takes_285 : decode cX12_takes 285 = .ok (.aload_n 0, 1) := by decide +kernel
theorem dX12_takes_286 : decode cX12_takes 286 = .ok (.getfield 100, 3) := by decide +kernel
theorem dX12_takes_289 : decode cX12_takes 289 = .ok (.bipush 40, 2) := by decide +kernel
theorem dX12_takes_291 : decode cX12_takes 291 = .ok (.iload_n 1, 1) := by decide +kernel
theorem dX12_takes_292 : decode cX12_takes 292 = .ok (.iadd, 1) := by decide +kernel
theorem dX12_takes_293 : decode cX12_takes 293 = .ok (.iaload, 1) := by decide +kernel
theorem dX12_takes_294 : decode cX12_takes 294 = .ok (.sipush 1000, 3) := by decide +kernel
theorem dX12_takes_297 : decode cX12_takes 297 = .ok (.isub, 1) := by decide +kernel
theorem dX12_takes_298 : decode cX12_takes 298 = .ok (.iastore, 1) := by decide +kernel
theorem dX12_takes_299 : decode cX12_takes 299 = .ok (.iinc 1 1, 3) := by decide +kernel
theorem dX12_takes_302 : decode cX12_takes 302 = .ok (.goto (-152), 3) := by decide +kernel
theorem dX12_takes_305 : decode cX12_takes 305 = .ok (.iconst 0, 1) := by decide +kernel
theorem dX12_takes_306 : decode cX12_takes 306 = .ok (.istore_n 1, 1) := by decide +kernel
theorem dX12_takes_307 : decode cX12_takes 307 = .ok (.iload_n 1, 1) := by decide +kernel
theorem dX12_takes_308 : decode cX12_takes 308 = .ok (.sipush 1000, 3) := by decide +kernel
theorem dX12_takes_311 : decode cX12_takes 311 = .ok (.if_icmp .ge 73, 3) := by decide +kernel
theorem dX12_takes_314 : decode cX12_takes 314 = .ok (.aload_n 0, 1) := by decide +kernel
theorem dX12_takes_315 : decode cX12_takes 315 = .ok (.getfield 103, 3) := by decide +kernel
theorem dX12_takes_318 : decode cX12_takes 318 = .ok (.iload_n 1, 1) := by decide +kernel
theorem dX12_takes_319 : decode cX12_takes 319 = .ok (.aload_n 0, 1) := by decide +kernel
theorem dX12_takes_320 : decode cX12_takes 320 = .ok (.getfield 103, 3) := by decide +kernel
theorem dX12_takes_323 : decode cX12_takes 323 = .ok (.sipush 1000, 3) := by decide +kernel
theorem dX12_takes_326 : decode cX12_takes 326 = .ok (.iload_n 1, 1) := by decide +kernel
theorem dX12_takes_327 : decode cX12_takes 327 = .ok (.iadd, 1) := by decide +kernel
theorem dX12_takes_328 : decode cX12_takes 328 = .ok (.iaload, 1) := by decide +kernel
theorem dX12_takes_329 : decode cX12_takes 329 = .ok (.iastore, 1) := by decide +kernel
theorem dX12_takes_330 : decode cX12_takes 330 = .ok (.aload_n 0, 1) := by decide +kernel
theorem dX12_takes_331 : decode cX12_takes 331 = .ok (.getfield 106, 3) := by decide +kernel
theorem dX12_takes_334 : decode cX12_takes 334 = .ok (.iload_n 1, 1) := by decide +kernel
theorem dX12_takes_335 : decode cX12_takes 335 = .ok (.aload_n 0, 1) := by decide +kernel
theorem dX12_takes_336 : decode cX12_takes 336 = .ok (.getfield 106, 3) := by decide +kernel
theorem dX12_takes_339 : decode cX12_takes 339 = .ok (.sipush 1000, 3) := by decide +kernel
theorem dX12_takes_342 : decode cX12_takes 342 = .ok (.iload_n 1, 1) := by decide +kernel
theorem dX12_takes_343 : decode cX12_takes 343 = .ok (.iadd, 1) := by decide +kernel
theorem dX12_takes_344 : decode cX12_takes 344 = .ok (.iaload, 1) := by decide +kernel
theorem dX12_takes_345 : decode cX12_takes 345 = .ok (.iastore, 1) := by decide +kernel
theorem dX12_takes_346 : decode cX12_takes 346 = .ok (.aload_n 0, 1) := by decide +kernel
theorem dX12_takes_347 : decode cX12_takes 347 = .ok (.getfield 109, 3) := by decide +kernel
theorem dX12_takes_350 : decode cX12_takes 350 = .ok (.iload_n 1, 1) := by decide +kernel
theorem dX12_takes_351 : decode cX12_takes 351 = .ok (.aload_n 0, 1) := by decide +kernel
theorem dX12_takes_352 : decode cX12_takes 352 = .ok (.getfield 109, 3) := by decide +kernel
theorem dX12_takes_355 : decode cX12_takes 355 = .ok (.sipush 1000, 3) := by decide +kernel
theorem dX12_takes_358 : decode cX12_takes 358 = .ok (.iload_n 1, 1) := by decide +kernel
theorem dX12_takes_359 : decode cX12_takes 359 = .ok (.iadd, 1) := by decide +kernel
theorem dX12_takes_360 : decode cX12_takes 360 = .ok (.iaload, 1) := by decide +kernel
theorem dX12_takes_361 : decode cX12_takes 361 = .ok (.iastore, 1) := by decide +kernel
theorem dX12_takes_362 : decode cX12_takes 362 = .ok (.aload_n 0, 1) := by decide +kernel
theorem dX12_takes_363 : decode cX12_takes 363 = .ok (.getfield 112, 3) := by decide +kernel
theorem dX12_takes_366 : decode cX12_takes 366 = .ok (.iload_n 1, 1) := by decide +kernel
theorem dX12_takes_367 : decode cX12_takes 367 = .ok (.aload_n 0, 1) := by decide +kernel
theorem dX12_takes_368 : decode cX12_takes 368 = .ok (.getfield 112, 3) := by decide +kernel
theorem dX12_takes_371 : decode cX12_takes 371 = .ok (.sipush 1000, 3) := by decide +kernel
theorem dX12_takes_374 : decode cX12_takes 374 = .ok (.iload_n 1, 1) := by decide +kernel
theorem dX12_takes_375 : decode cX12_takes 375 = .ok (.iadd, 1) := by decide +kernel
theorem dX12_takes_376 : decode cX12_takes 376 = .ok (.iaload, 1) := by decide +kernel
theorem dX12_takes_377 : decode cX12_takes 377 = .ok (.iastore, 1) := by decide +kernel
theorem dX12_takes_378 : decode cX12_takes 378 = .ok (.iinc 1 1, 3) := by decide +kernel
theorem dX12_takes_381 : decode cX12_takes 381 = .ok (.goto (-74), 3) := by decide +kernel
theorem dX12_takes_384 : decode cX12_takes 384 = .ok (.return_, 1) := by decide +kernel
set_option maxHeartbeats 4000000 in
set_option maxRecDepth 100000 in
theorem cm_copies (l : Launch) (D : va_G) (cI cJ cZ cB : ClassId) (cO : ClassId) (a : Nat → Nat) :
    CV l D [(cI, .int), (cJ, .long), (cZ, .boolean), (cB, .byte), (cO, .object "LuckLinks$World")] yX12_copies cX12_copies 4 ({ frames := 0, cells := 0, slots := 0, locals := 0 } : Room) [.ref (a 0), .int (0 : Int32), .int (1 : Int32)] [((a 0), .inr (12, (mF a).set 12 (.int (1 : Int32)))), ((a 1), .inl (cI, 4, .inl (fun _ => (0 : Int32)))), ((a 2), .inl (cI, 4, .inl (fun _ => (0 : Int32)))), ((a 3), .inl (cI, 4, .inl (fun _ => (0 : Int32)))), ((a 4), .inl (cJ, 4, .inr (.inl (vp_updL (fun _ => (0 : Int64)) (0) ((1 : Int64)))))), ((a 5), .inl (cI, 320, .inl (fun _ => (0 : Int32)))), ((a 6), .inl (cI, 96, .inl (fun _ => (0 : Int32)))), ((a 7), .inl (cI, 160, .inl (wk0))), ((a 8), .inl (cZ, 12800, .inl (fun _ => (0 : Int32)))), ((a 9), .inl (cZ, 3200, .inl (fun _ => (0 : Int32)))), ((a 10), .inl (cI, 12800, .inl (fun _ => (0 : Int32)))), ((a 11), .inl (cI, 51200, .inl (fun _ => (0 : Int32)))), ((a 12), .inl (cI, 3200, .inl (fun _ => (0 : Int32))))] (fun (u : Unit) => (True)) (fun (_ : Unit) => [((a 0), .inr (12, (mF a).set 12 (.int (1 : Int32))))]) := by
  intro sz
  refine body_of (y := yX12_copies) (cc := cX12_copies) (maxL := 4) (ret := none) (rm := ({ frames := 0, cells := 0, slots := 0, locals := 0 } : Room)) (wc := [((a 0), .inr (12, (mF a).set 12 (.int (1 : Int32)))), ((a 1), .inl (cI, 4, .inl (fun _ => (0 : Int32)))), ((a 2), .inl (cI, 4, .inl (fun _ => (0 : Int32)))), ((a 3), .inl (cI, 4, .inl (fun _ => (0 : Int32)))), ((a 4), .inl (cJ, 4, .inr (.inl (vp_updL (fun _ => (0 : Int64)) (0) ((1 : Int64)))))), ((a 5), .inl (cI, 320, .inl (fun _ => (0 : Int32)))), ((a 6), .inl (cI, 96, .inl (fun _ => (0 : Int32)))), ((a 7), .inl (cI, 160, .inl (wk0))), ((a 8), .inl (cZ, 12800, .inl (fun _ => (0 : Int32)))), ((a 9), .inl (cZ, 3200, .inl (fun _ => (0 : Int32)))), ((a 10), .inl (cI, 12800, .inl (fun _ => (0 : Int32)))), ((a 11), .inl (cI, 51200, .inl (fun _ => (0 : Int32)))), ((a 12), .inl (cI, 3200, .inl (fun _ => (0 : Int32))))]) (tys := [(cI, .int), (cJ, .long), (cZ, .boolean), (cB, .byte), (cO, .object "LuckLinks$World")]) (D := D) (sz := sz) (own := RX12) (av := [.ref (a 0), .int (0 : Int32), .int (1 : Int32)]) (Qc := fun A => va_Qv (fun (u : Unit) => (True)) (fun u t => Aft D A ((fun (_ : Unit) => [((a 0), .inr (12, (mF a).set 12 (.int (1 : Int32))))]) u) t) A) (by decide) rfl (Nat.le_of_ble_eq_true rfl) (fun p e s m below meth c A ls C hr hlk hin X hl => ?_)
  have hx := C.1
  have hb := C.2.1
  have hown := C.2.2.2.1
  have hts := C.2.2.2.2.1
  have hl : lv_has ls 4 [(0, .ref (a 0)), (1, .int (0 : Int32)), (2, .int (1 : Int32))] := hl
  show W p l e _ s m _ below meth c s.heap [] 0 0 (MQ below (va_Qv (fun (u : Unit) => (True)) (fun u t => Aft D A ((fun (_ : Unit) => [((a 0), .inr (12, (mF a).set 12 (.int (1 : Int32))))]) u) t) A) ([.ref (a 0), .int (0 : Int32), .int (1 : Int32)] : List Value).toArray s 0 0 A) (F0 m 0 ls [])
  have X : Wd D A s [((a 0), .inr (12, (mF a).set 12 (.int (1 : Int32)))), ((a 1), .inl (cI, 4, .inl (fun _ => (0 : Int32)))), ((a 2), .inl (cI, 4, .inl (fun _ => (0 : Int32)))), ((a 3), .inl (cI, 4, .inl (fun _ => (0 : Int32)))), ((a 4), .inl (cJ, 4, .inr (.inl (vp_updL (fun _ => (0 : Int64)) (0) ((1 : Int64)))))), ((a 5), .inl (cI, 320, .inl (fun _ => (0 : Int32)))), ((a 6), .inl (cI, 96, .inl (fun _ => (0 : Int32)))), ((a 7), .inl (cI, 160, .inl (wk0))), ((a 8), .inl (cZ, 12800, .inl (fun _ => (0 : Int32)))), ((a 9), .inl (cZ, 3200, .inl (fun _ => (0 : Int32)))), ((a 10), .inl (cI, 12800, .inl (fun _ => (0 : Int32)))), ((a 11), .inl (cI, 51200, .inl (fun _ => (0 : Int32)))), ((a 12), .inl (cI, 3200, .inl (fun _ => (0 : Int32))))] s.heap [] := X
  obtain ⟨H, locs, eH, eL⟩ : ∃ H locs, H = s.heap ∧ locs = ([] : List Loc) := ⟨_, _, rfl, rfl⟩
  rw [← eH, ← eL] at X ⊢
  clear eH eL
  refine lv_aload_n hx hb dX12_copies_0 rfl (lv_at hl 0 rfl) ?_
  refine x_get (own := RX12) (T := TX12) C X 0 rfl rfl 0 (by decide) k_9_16 rfl rfl (v := .ref (a 1)) rfl dX12_copies_1 ?_
  refine lv_iload_n hx hb dX12_copies_4 rfl (lv_at hl 2 rfl) ?_
  refine lv_aload_n hx hb dX12_copies_5 rfl (lv_at hl 0 rfl) ?_
  refine x_get (own := RX12) (T := TX12) C X 0 rfl rfl 0 (by decide) k_9_16 rfl rfl (v := .ref (a 1)) rfl dX12_copies_6 ?_
  refine lv_iload_n hx hb dX12_copies_9 rfl (lv_at hl 1 rfl) ?_
  refine x_iald C X 1 0 rfl rfl (j := 0) rfl (vp_in_nI (n := 0) (by omega) (by omega)) (v := (0 : Int32)) (rfl) dX12_copies_10 ?_
  refine x_iast C X 1 0 rfl rfl (j := 1) rfl (vp_in_nI (n := 1) (by omega) (by omega)) dX12_copies_11 (fun H locs X => ?_)
  have X := x_cng X 1 rfl (arr_eq _ _ (g := fun _ => (0 : Int32)) (fun j h => by first | rfl | (unfold upd; split <;> rfl)))
  have X : Wd D A s [((a 0), .inr (12, (mF a).set 12 (.int (1 : Int32)))), ((a 1), .inl (cI, 4, .inl (fun _ => (0 : Int32)))), ((a 2), .inl (cI, 4, .inl (fun _ => (0 : Int32)))), ((a 3), .inl (cI, 4, .inl (fun _ => (0 : Int32)))), ((a 4), .inl (cJ, 4, .inr (.inl (vp_updL (fun _ => (0 : Int64)) (0) ((1 : Int64)))))), ((a 5), .inl (cI, 320, .inl (fun _ => (0 : Int32)))), ((a 6), .inl (cI, 96, .inl (fun _ => (0 : Int32)))), ((a 7), .inl (cI, 160, .inl (wk0))), ((a 8), .inl (cZ, 12800, .inl (fun _ => (0 : Int32)))), ((a 9), .inl (cZ, 3200, .inl (fun _ => (0 : Int32)))), ((a 10), .inl (cI, 12800, .inl (fun _ => (0 : Int32)))), ((a 11), .inl (cI, 51200, .inl (fun _ => (0 : Int32)))), ((a 12), .inl (cI, 3200, .inl (fun _ => (0 : Int32))))] H locs := X
  refine lv_aload_n hx hb dX12_copies_12 rfl (lv_at hl 0 rfl) ?_
  refine x_get (own := RX12) (T := TX12) C X 0 rfl rfl 1 (by decide) k_9_17 rfl rfl (v := .ref (a 2)) rfl dX12_copies_13 ?_
  refine lv_iload_n hx hb dX12_copies_16 rfl (lv_at hl 2 rfl) ?_
  refine lv_aload_n hx hb dX12_copies_17 rfl (lv_at hl 0 rfl) ?_
  refine x_get (own := RX12) (T := TX12) C X 0 rfl rfl 1 (by decide) k_9_17 rfl rfl (v := .ref (a 2)) rfl dX12_copies_18 ?_
  refine lv_iload_n hx hb dX12_copies_21 rfl (lv_at hl 1 rfl) ?_
  refine x_iald C X 2 0 rfl rfl (j := 0) rfl (vp_in_nI (n := 0) (by omega) (by omega)) (v := (0 : Int32)) (rfl) dX12_copies_22 ?_
  refine x_iast C X 2 0 rfl rfl (j := 1) rfl (vp_in_nI (n := 1) (by omega) (by omega)) dX12_copies_23 (fun H locs X => ?_)
  have X := x_cng X 2 rfl (arr_eq _ _ (g := fun _ => (0 : Int32)) (fun j h => by first | rfl | (unfold upd; split <;> rfl)))
  have X : Wd D A s [((a 0), .inr (12, (mF a).set 12 (.int (1 : Int32)))), ((a 1), .inl (cI, 4, .inl (fun _ => (0 : Int32)))), ((a 2), .inl (cI, 4, .inl (fun _ => (0 : Int32)))), ((a 3), .inl (cI, 4, .inl (fun _ => (0 : Int32)))), ((a 4), .inl (cJ, 4, .inr (.inl (vp_updL (fun _ => (0 : Int64)) (0) ((1 : Int64)))))), ((a 5), .inl (cI, 320, .inl (fun _ => (0 : Int32)))), ((a 6), .inl (cI, 96, .inl (fun _ => (0 : Int32)))), ((a 7), .inl (cI, 160, .inl (wk0))), ((a 8), .inl (cZ, 12800, .inl (fun _ => (0 : Int32)))), ((a 9), .inl (cZ, 3200, .inl (fun _ => (0 : Int32)))), ((a 10), .inl (cI, 12800, .inl (fun _ => (0 : Int32)))), ((a 11), .inl (cI, 51200, .inl (fun _ => (0 : Int32)))), ((a 12), .inl (cI, 3200, .inl (fun _ => (0 : Int32))))] H locs := X
  refine lv_aload_n hx hb dX12_copies_24 rfl (lv_at hl 0 rfl) ?_
  refine x_get (own := RX12) (T := TX12) C X 0 rfl rfl 2 (by decide) k_9_18 rfl rfl (v := .ref (a 3)) rfl dX12_copies_25 ?_
  refine lv_iload_n hx hb dX12_copies_28 rfl (lv_at hl 2 rfl) ?_
  refine lv_aload_n hx hb dX12_copies_29 rfl (lv_at hl 0 rfl) ?_
  refine x_get (own := RX12) (T := TX12) C X 0 rfl rfl 2 (by decide) k_9_18 rfl rfl (v := .ref (a 3)) rfl dX12_copies_30 ?_
  refine lv_iload_n hx hb dX12_copies_33 rfl (lv_at hl 1 rfl) ?_
  refine x_iald C X 3 0 rfl rfl (j := 0) rfl (vp_in_nI (n := 0) (by omega) (by omega)) (v := (0 : Int32)) (rfl) dX12_copies_34 ?_
  refine x_iast C X 3 0 rfl rfl (j := 1) rfl (vp_in_nI (n := 1) (by omega) (by omega)) dX12_copies_35 (fun H locs X => ?_)
  have X := x_cng X 3 rfl (arr_eq _ _ (g := fun _ => (0 : Int32)) (fun j h => by first | rfl | (unfold upd; split <;> rfl)))
  have X : Wd D A s [((a 0), .inr (12, (mF a).set 12 (.int (1 : Int32)))), ((a 1), .inl (cI, 4, .inl (fun _ => (0 : Int32)))), ((a 2), .inl (cI, 4, .inl (fun _ => (0 : Int32)))), ((a 3), .inl (cI, 4, .inl (fun _ => (0 : Int32)))), ((a 4), .inl (cJ, 4, .inr (.inl (vp_updL (fun _ => (0 : Int64)) (0) ((1 : Int64)))))), ((a 5), .inl (cI, 320, .inl (fun _ => (0 : Int32)))), ((a 6), .inl (cI, 96, .inl (fun _ => (0 : Int32)))), ((a 7), .inl (cI, 160, .inl (wk0))), ((a 8), .inl (cZ, 12800, .inl (fun _ => (0 : Int32)))), ((a 9), .inl (cZ, 3200, .inl (fun _ => (0 : Int32)))), ((a 10), .inl (cI, 12800, .inl (fun _ => (0 : Int32)))), ((a 11), .inl (cI, 51200, .inl (fun _ => (0 : Int32)))), ((a 12), .inl (cI, 3200, .inl (fun _ => (0 : Int32))))] H locs := X
  refine lv_aload_n hx hb dX12_copies_36 rfl (lv_at hl 0 rfl) ?_
  refine x_get (own := RX12) (T := TX12) C X 0 rfl rfl 3 (by decide) k_9_19 rfl rfl (v := .ref (a 4)) rfl dX12_copies_37 ?_
  refine lv_iload_n hx hb dX12_copies_40 rfl (lv_at hl 2 rfl) ?_
  refine lv_aload_n hx hb dX12_copies_41 rfl (lv_at hl 0 rfl) ?_
  refine x_get (own := RX12) (T := TX12) C X 0 rfl rfl 3 (by decide) k_9_19 rfl rfl (v := .ref (a 4)) rfl dX12_copies_42 ?_
  refine lv_iload_n hx hb dX12_copies_45 rfl (lv_at hl 1 rfl) ?_
  refine x_lald C X 4 1 rfl rfl (j := 0) rfl (vp_in_nI (n := 0) (by omega) (by omega)) (v := ((vp_updL (fun _ => (0 : Int64)) (0) ((1 : Int64))) (0))) (rfl) dX12_copies_46 ?_
  refine x_last C X 4 1 rfl rfl (j := 1) rfl (vp_in_nI (n := 1) (by omega) (by omega)) dX12_copies_47 (fun H locs X => ?_)
  have X : Wd D A s [((a 0), .inr (12, (mF a).set 12 (.int (1 : Int32)))), ((a 1), .inl (cI, 4, .inl (fun _ => (0 : Int32)))), ((a 2), .inl (cI, 4, .inl (fun _ => (0 : Int32)))), ((a 3), .inl (cI, 4, .inl (fun _ => (0 : Int32)))), ((a 4), .inl (cJ, 4, .inr (.inl (vp_updL (vp_updL (fun _ => (0 : Int64)) (0) ((1 : Int64))) (1) (((vp_updL (fun _ => (0 : Int64)) (0) ((1 : Int64))) (0))))))), ((a 5), .inl (cI, 320, .inl (fun _ => (0 : Int32)))), ((a 6), .inl (cI, 96, .inl (fun _ => (0 : Int32)))), ((a 7), .inl (cI, 160, .inl (wk0))), ((a 8), .inl (cZ, 12800, .inl (fun _ => (0 : Int32)))), ((a 9), .inl (cZ, 3200, .inl (fun _ => (0 : Int32)))), ((a 10), .inl (cI, 12800, .inl (fun _ => (0 : Int32)))), ((a 11), .inl (cI, 51200, .inl (fun _ => (0 : Int32)))), ((a 12), .inl (cI, 3200, .inl (fun _ => (0 : Int32))))] H locs := X
  refine lv_iconst (v := (0 : Int32)) hx hb dX12_copies_48 (by decide) ?_
  refine lv_istore_n (lv' := [(3, .int (0 : Int32)), (0, .ref (a 0)), (1, .int (0 : Int32)), (2, .int (1 : Int32))]) hx hb dX12_copies_49 rfl hl (by decide) rfl (fun ls hl => ?_)
  have L50 : ∀ (n : Nat) (i : Nat) (f50_0 : Nat → Int32) (H : Heap) (locs : List Loc) (ls : Array Slot), (h1 : i ≤ 80) → 80 < i + n → Wd D A s [((a 0), .inr (12, (mF a).set 12 (.int (1 : Int32)))), ((a 1), .inl (cI, 4, .inl (fun _ => (0 : Int32)))), ((a 2), .inl (cI, 4, .inl (fun _ => (0 : Int32)))), ((a 3), .inl (cI, 4, .inl (fun _ => (0 : Int32)))), ((a 4), .inl (cJ, 4, .inr (.inl (vp_updL (vp_updL (fun _ => (0 : Int64)) (0) ((1 : Int64))) (1) (((vp_updL (fun _ => (0 : Int64)) (0) ((1 : Int64))) (0))))))), ((a 5), .inl (cI, 320, .inl (f50_0))), ((a 6), .inl (cI, 96, .inl (fun _ => (0 : Int32)))), ((a 7), .inl (cI, 160, .inl (wk0))), ((a 8), .inl (cZ, 12800, .inl (fun _ => (0 : Int32)))), ((a 9), .inl (cZ, 3200, .inl (fun _ => (0 : Int32)))), ((a 10), .inl (cI, 12800, .inl (fun _ => (0 : Int32)))), ((a 11), .inl (cI, 51200, .inl (fun _ => (0 : Int32)))), ((a 12), .inl (cI, 3200, .inl (fun _ => (0 : Int32))))] H locs → lv_has ls 4 [(3, .int (nI (i))), (0, .ref (a 0)), (1, .int (0 : Int32)), (2, .int (1 : Int32))] → W p l e ({ frames := 0, cells := 0, slots := 0, locals := 0 } : Room) s m ([.ref (a 0), .int (0 : Int32), .int (1 : Int32)] : List Value).toArray below meth c H locs 0 0 (MQ below (va_Qv (fun (u : Unit) => (True)) (fun u t => Aft D A ((fun (_ : Unit) => [((a 0), .inr (12, (mF a).set 12 (.int (1 : Int32))))]) u) t) A) ([.ref (a 0), .int (0 : Int32), .int (1 : Int32)] : List Value).toArray s 0 0 A) (F0 m 50 ls []) := by
    intro n
    induction n with
    | zero => intro i f50_0 H locs ls h1 hn; exact absurd hn (by omega)
    | succ n ih =>
      intro i f50_0 H locs ls h1 hn X hl
      have ih50 := ih
      refine lv_iload_n hx hb dX12_copies_50 rfl (lv_at hl 0 rfl) ?_
      refine lv_bipush (v := (80 : Int32)) hx hb dX12_copies_51 (by decide) ?_
      refine lv_icmp_ge (tgt := 84) hx hb dX12_copies_53 (by decide) (fun c_1 => ?_) (fun c_1 => ?_)
      · have fc_1 : (80 : Int) ≤ ((i : Nat) : Int) := (by have h9 := i_le c_1; simp only [nI_toInt (n := i) (by omega)] at h9; exact h9)
        refine lv_iconst (v := (0 : Int32)) hx hb dX12_copies_84 (by decide) ?_
        refine lv_istore_n (lv' := [(3, .int (0 : Int32)), (0, .ref (a 0)), (1, .int (0 : Int32)), (2, .int (1 : Int32))]) hx hb dX12_copies_85 rfl hl (by decide) rfl (fun ls hl => ?_)
        have L86 : ∀ (n : Nat) (i : Nat) (f86_0 : Nat → Int32) (H : Heap) (locs : List Loc) (ls : Array Slot), (h1 : i ≤ 24) → 24 < i + n → Wd D A s [((a 0), .inr (12, (mF a).set 12 (.int (1 : Int32)))), ((a 1), .inl (cI, 4, .inl (fun _ => (0 : Int32)))), ((a 2), .inl (cI, 4, .inl (fun _ => (0 : Int32)))), ((a 3), .inl (cI, 4, .inl (fun _ => (0 : Int32)))), ((a 4), .inl (cJ, 4, .inr (.inl (vp_updL (vp_updL (fun _ => (0 : Int64)) (0) ((1 : Int64))) (1) (((vp_updL (fun _ => (0 : Int64)) (0) ((1 : Int64))) (0))))))), ((a 5), .inl (cI, 320, .inl (f50_0))), ((a 6), .inl (cI, 96, .inl (f86_0))), ((a 7), .inl (cI, 160, .inl (wk0))), ((a 8), .inl (cZ, 12800, .inl (fun _ => (0 : Int32)))), ((a 9), .inl (cZ, 3200, .inl (fun _ => (0 : Int32)))), ((a 10), .inl (cI, 12800, .inl (fun _ => (0 : Int32)))), ((a 11), .inl (cI, 51200, .inl (fun _ => (0 : Int32)))), ((a 12), .inl (cI, 3200, .inl (fun _ => (0 : Int32))))] H locs → lv_has ls 4 [(3, .int (nI (i))), (0, .ref (a 0)), (1, .int (0 : Int32)), (2, .int (1 : Int32))] → W p l e ({ frames := 0, cells := 0, slots := 0, locals := 0 } : Room) s m ([.ref (a 0), .int (0 : Int32), .int (1 : Int32)] : List Value).toArray below meth c H locs 0 0 (MQ below (va_Qv (fun (u : Unit) => (True)) (fun u t => Aft D A ((fun (_ : Unit) => [((a 0), .inr (12, (mF a).set 12 (.int (1 : Int32))))]) u) t) A) ([.ref (a 0), .int (0 : Int32), .int (1 : Int32)] : List Value).toArray s 0 0 A) (F0 m 86 ls []) := by
          intro n
          induction n with
          | zero => intro i f86_0 H locs ls h1 hn; exact absurd hn (by omega)
          | succ n ih =>
            intro i f86_0 H locs ls h1 hn X hl
            have ih86 := ih
            refine lv_iload_n hx hb dX12_copies_86 rfl (lv_at hl 0 rfl) ?_
            refine lv_bipush (v := (24 : Int32)) hx hb dX12_copies_87 (by decide) ?_
            refine lv_icmp_ge (tgt := 120) hx hb dX12_copies_89 (by decide) (fun c_2 => ?_) (fun c_2 => ?_)
            · have fc_2 : (24 : Int) ≤ ((i : Nat) : Int) := (by have h9 := i_le c_2; simp only [nI_toInt (n := i) (by omega)] at h9; exact h9)
              refine lv_iconst (v := (0 : Int32)) hx hb dX12_copies_120 (by decide) ?_
              refine lv_istore_n (lv' := [(3, .int (0 : Int32)), (0, .ref (a 0)), (1, .int (0 : Int32)), (2, .int (1 : Int32))]) hx hb dX12_copies_121 rfl hl (by decide) rfl (fun ls hl => ?_)
              have L122 : ∀ (n : Nat) (i : Nat) (f122_0 : Nat → Int32) (H : Heap) (locs : List Loc) (ls : Array Slot), (h1 : i ≤ 40) → 40 < i + n → Wd D A s [((a 0), .inr (12, (mF a).set 12 (.int (1 : Int32)))), ((a 1), .inl (cI, 4, .inl (fun _ => (0 : Int32)))), ((a 2), .inl (cI, 4, .inl (fun _ => (0 : Int32)))), ((a 3), .inl (cI, 4, .inl (fun _ => (0 : Int32)))), ((a 4), .inl (cJ, 4, .inr (.inl (vp_updL (vp_updL (fun _ => (0 : Int64)) (0) ((1 : Int64))) (1) (((vp_updL (fun _ => (0 : Int64)) (0) ((1 : Int64))) (0))))))), ((a 5), .inl (cI, 320, .inl (f50_0))), ((a 6), .inl (cI, 96, .inl (f86_0))), ((a 7), .inl (cI, 160, .inl (f122_0))), ((a 8), .inl (cZ, 12800, .inl (fun _ => (0 : Int32)))), ((a 9), .inl (cZ, 3200, .inl (fun _ => (0 : Int32)))), ((a 10), .inl (cI, 12800, .inl (fun _ => (0 : Int32)))), ((a 11), .inl (cI, 51200, .inl (fun _ => (0 : Int32)))), ((a 12), .inl (cI, 3200, .inl (fun _ => (0 : Int32))))] H locs → lv_has ls 4 [(3, .int (nI (i))), (0, .ref (a 0)), (1, .int (0 : Int32)), (2, .int (1 : Int32))] → W p l e ({ frames := 0, cells := 0, slots := 0, locals := 0 } : Room) s m ([.ref (a 0), .int (0 : Int32), .int (1 : Int32)] : List Value).toArray below meth c H locs 0 0 (MQ below (va_Qv (fun (u : Unit) => (True)) (fun u t => Aft D A ((fun (_ : Unit) => [((a 0), .inr (12, (mF a).set 12 (.int (1 : Int32))))]) u) t) A) ([.ref (a 0), .int (0 : Int32), .int (1 : Int32)] : List Value).toArray s 0 0 A) (F0 m 122 ls []) := by
                intro n
                induction n with
                | zero => intro i f122_0 H locs ls h1 hn; exact absurd hn (by omega)
                | succ n ih =>
                  intro i f122_0 H locs ls h1 hn X hl
                  have ih122 := ih
                  refine lv_iload_n hx hb dX12_copies_122 rfl (lv_at hl 0 rfl) ?_
                  refine lv_bipush (v := (40 : Int32)) hx hb dX12_copies_123 (by decide) ?_
                  refine lv_icmp_ge (tgt := 156) hx hb dX12_copies_125 (by decide) (fun c_3 => ?_) (fun c_3 => ?_)
                  · have fc_3 : (40 : Int) ≤ ((i : Nat) : Int) := (by have h9 := i_le c_3; simp only [nI_toInt (n := i) (by omega)] at h9; exact h9)
                    refine lv_iconst (v := (0 : Int32)) hx hb dX12_copies_156 (by decide) ?_
                    refine lv_istore_n (lv' := [(3, .int (0 : Int32)), (0, .ref (a 0)), (1, .int (0 : Int32)), (2, .int (1 : Int32))]) hx hb dX12_copies_157 rfl hl (by decide) rfl (fun ls hl => ?_)
                    have L158 : ∀ (n : Nat) (i : Nat) (f158_0 : Nat → Int32) (f158_1 : Nat → Int32) (H : Heap) (locs : List Loc) (ls : Array Slot), (h1 : i ≤ 800) → 800 < i + n → Wd D A s [((a 0), .inr (12, (mF a).set 12 (.int (1 : Int32)))), ((a 1), .inl (cI, 4, .inl (fun _ => (0 : Int32)))), ((a 2), .inl (cI, 4, .inl (fun _ => (0 : Int32)))), ((a 3), .inl (cI, 4, .inl (fun _ => (0 : Int32)))), ((a 4), .inl (cJ, 4, .inr (.inl (vp_updL (vp_updL (fun _ => (0 : Int64)) (0) ((1 : Int64))) (1) (((vp_updL (fun _ => (0 : Int64)) (0) ((1 : Int64))) (0))))))), ((a 5), .inl (cI, 320, .inl (f50_0))), ((a 6), .inl (cI, 96, .inl (f86_0))), ((a 7), .inl (cI, 160, .inl (f122_0))), ((a 8), .inl (cZ, 12800, .inl (fun _ => (0 : Int32)))), ((a 9), .inl (cZ, 3200, .inl (f158_0))), ((a 10), .inl (cI, 12800, .inl (fun _ => (0 : Int32)))), ((a 11), .inl (cI, 51200, .inl (fun _ => (0 : Int32)))), ((a 12), .inl (cI, 3200, .inl (f158_1)))] H locs → lv_has ls 4 [(3, .int (nI (i))), (0, .ref (a 0)), (1, .int (0 : Int32)), (2, .int (1 : Int32))] → W p l e ({ frames := 0, cells := 0, slots := 0, locals := 0 } : Room) s m ([.ref (a 0), .int (0 : Int32), .int (1 : Int32)] : List Value).toArray below meth c H locs 0 0 (MQ below (va_Qv (fun (u : Unit) => (True)) (fun u t => Aft D A ((fun (_ : Unit) => [((a 0), .inr (12, (mF a).set 12 (.int (1 : Int32))))]) u) t) A) ([.ref (a 0), .int (0 : Int32), .int (1 : Int32)] : List Value).toArray s 0 0 A) (F0 m 158 ls []) := by
                      intro n
                      induction n with
                      | zero => intro i f158_0 f158_1 H locs ls h1 hn; exact absurd hn (by omega)
                      | succ n ih =>
                        intro i f158_0 f158_1 H locs ls h1 hn X hl
                        have ih158 := ih
                        refine lv_iload_n hx hb dX12_copies_158 rfl (lv_at hl 0 rfl) ?_
                        refine lv_sipush (v := (800 : Int32)) hx hb dX12_copies_159 (by decide) ?_
                        refine lv_icmp_ge (tgt := 219) hx hb dX12_copies_162 (by decide) (fun c_4 => ?_) (fun c_4 => ?_)
                        · have fc_4 : (800 : Int) ≤ ((i : Nat) : Int) := (by have h9 := i_le c_4; simp only [nI_toInt (n := i) (by omega)] at h9; exact h9)
                          refine lv_iconst (v := (0 : Int32)) hx hb dX12_copies_219 (by decide) ?_
                          refine lv_istore_n (lv' := [(3, .int (0 : Int32)), (0, .ref (a 0)), (1, .int (0 : Int32)), (2, .int (1 : Int32))]) hx hb dX12_copies_220 rfl hl (by decide) rfl (fun ls hl => ?_)
                          have L221 : ∀ (n : Nat) (i : Nat) (f221_0 : Nat → Int32) (f221_1 : Nat → Int32) (H : Heap) (locs : List Loc) (ls : Array Slot), (h1 : i ≤ 3200) → 3200 < i + n → Wd D A s [((a 0), .inr (12, (mF a).set 12 (.int (1 : Int32)))), ((a 1), .inl (cI, 4, .inl (fun _ => (0 : Int32)))), ((a 2), .inl (cI, 4, .inl (fun _ => (0 : Int32)))), ((a 3), .inl (cI, 4, .inl (fun _ => (0 : Int32)))), ((a 4), .inl (cJ, 4, .inr (.inl (vp_updL (vp_updL (fun _ => (0 : Int64)) (0) ((1 : Int64))) (1) (((vp_updL (fun _ => (0 : Int64)) (0) ((1 : Int64))) (0))))))), ((a 5), .inl (cI, 320, .inl (f50_0))), ((a 6), .inl (cI, 96, .inl (f86_0))), ((a 7), .inl (cI, 160, .inl (f122_0))), ((a 8), .inl (cZ, 12800, .inl (f221_0))), ((a 9), .inl (cZ, 3200, .inl (f158_0))), ((a 10), .inl (cI, 12800, .inl (f221_1))), ((a 11), .inl (cI, 51200, .inl (fun _ => (0 : Int32)))), ((a 12), .inl (cI, 3200, .inl (f158_1)))] H locs → lv_has ls 4 [(3, .int (nI (i))), (0, .ref (a 0)), (1, .int (0 : Int32)), (2, .int (1 : Int32))] → W p l e ({ frames := 0, cells := 0, slots := 0, locals := 0 } : Room) s m ([.ref (a 0), .int (0 : Int32), .int (1 : Int32)] : List Value).toArray below meth c H locs 0 0 (MQ below (va_Qv (fun (u : Unit) => (True)) (fun u t => Aft D A ((fun (_ : Unit) => [((a 0), .inr (12, (mF a).set 12 (.int (1 : Int32))))]) u) t) A) ([.ref (a 0), .int (0 : Int32), .int (1 : Int32)] : List Value).toArray s 0 0 A) (F0 m 221 ls []) := by
                            intro n
                            induction n with
                            | zero => intro i f221_0 f221_1 H locs ls h1 hn; exact absurd hn (by omega)
                            | succ n ih =>
                              intro i f221_0 f221_1 H locs ls h1 hn X hl
                              have ih221 := ih
                              refine lv_iload_n hx hb dX12_copies_221 rfl (lv_at hl 0 rfl) ?_
                              refine lv_sipush (v := (3200 : Int32)) hx hb dX12_copies_222 (by decide) ?_
                              refine lv_icmp_ge (tgt := 282) hx hb dX12_copies_225 (by decide) (fun c_5 => ?_) (fun c_5 => ?_)
                              · have fc_5 : (3200 : Int) ≤ ((i : Nat) : Int) := (by have h9 := i_le c_5; simp only [nI_toInt (n := i) (by omega)] at h9; exact h9)
                                refine lv_iconst (v := (0 : Int32)) hx hb dX12_copies_282 (by decide) ?_
                                refine lv_istore_n (lv' := [(3, .int (0 : Int32)), (0, .ref (a 0)), (1, .int (0 : Int32)), (2, .int (1 : Int32))]) hx hb dX12_copies_283 rfl hl (by decide) rfl (fun ls hl => ?_)
                                have L284 : ∀ (n : Nat) (i : Nat) (f284_0 : Nat → Int32) (H : Heap) (locs : List Loc) (ls : Array Slot), (h1 : i ≤ 12800) → 12800 < i + n → Wd D A s [((a 0), .inr (12, (mF a).set 12 (.int (1 : Int32)))), ((a 1), .inl (cI, 4, .inl (fun _ => (0 : Int32)))), ((a 2), .inl (cI, 4, .inl (fun _ => (0 : Int32)))), ((a 3), .inl (cI, 4, .inl (fun _ => (0 : Int32)))), ((a 4), .inl (cJ, 4, .inr (.inl (vp_updL (vp_updL (fun _ => (0 : Int64)) (0) ((1 : Int64))) (1) (((vp_updL (fun _ => (0 : Int64)) (0) ((1 : Int64))) (0))))))), ((a 5), .inl (cI, 320, .inl (f50_0))), ((a 6), .inl (cI, 96, .inl (f86_0))), ((a 7), .inl (cI, 160, .inl (f122_0))), ((a 8), .inl (cZ, 12800, .inl (f221_0))), ((a 9), .inl (cZ, 3200, .inl (f158_0))), ((a 10), .inl (cI, 12800, .inl (f221_1))), ((a 11), .inl (cI, 51200, .inl (f284_0))), ((a 12), .inl (cI, 3200, .inl (f158_1)))] H locs → lv_has ls 4 [(3, .int (nI (i))), (0, .ref (a 0)), (1, .int (0 : Int32)), (2, .int (1 : Int32))] → W p l e ({ frames := 0, cells := 0, slots := 0, locals := 0 } : Room) s m ([.ref (a 0), .int (0 : Int32), .int (1 : Int32)] : List Value).toArray below meth c H locs 0 0 (MQ below (va_Qv (fun (u : Unit) => (True)) (fun u t => Aft D A ((fun (_ : Unit) => [((a 0), .inr (12, (mF a).set 12 (.int (1 : Int32))))]) u) t) A) ([.ref (a 0), .int (0 : Int32), .int (1 : Int32)] : List Value).toArray s 0 0 A) (F0 m 284 ls []) := by
                                  intro n
                                  induction n with
                                  | zero => intro i f284_0 H locs ls h1 hn; exact absurd hn (by omega)
                                  | succ n ih =>
                                    intro i f284_0 H locs ls h1 hn X hl
                                    have ih284 := ih
                                    refine lv_iload_n hx hb dX12_copies_284 rfl (lv_at hl 0 rfl) ?_
                                    refine lv_sipush (v := (12800 : Int32)) hx hb dX12_copies_285 (by decide) ?_
                                    refine lv_icmp_ge (tgt := 321) hx hb dX12_copies_288 (by decide) (fun c_6 => ?_) (fun c_6 => ?_)
                                    · have fc_6 : (12800 : Int) ≤ ((i : Nat) : Int) := (by have h9 := i_le c_6; simp only [nI_toInt (n := i) (by omega)] at h9; exact h9)
                                      exact x_vret C X hr hlk (()) [0] (by decide) rfl (trivial) (Nat.le_of_ble_eq_true rfl) (Nat.le_of_ble_eq_true rfl) dX12_copies_321
                                    · have fc_6 : ((i : Nat) : Int) < (12800 : Int) := (by have h9 := i_nle c_6; simp only [nI_toInt (n := i) (by omega)] at h9; exact h9)
                                      refine lv_aload_n hx hb dX12_copies_291 rfl (lv_at hl 1 rfl) ?_
                                      refine x_get (own := RX12) (T := TX12) C X 0 rfl rfl 10 (by decide) k_10_3 rfl rfl (v := .ref (a 11)) rfl dX12_copies_292 ?_
                                      refine lv_sipush (v := (12800 : Int32)) hx hb dX12_copies_295 (by decide) ?_
                                      refine lv_iload_n hx hb dX12_copies_298 rfl (lv_at hl 3 rfl) ?_
                                      refine lv_imul hx hb dX12_copies_299 ?_
                                      refine x_eqi (show (12800 : Int32) * (1 : Int32) = (12800 : Int32) from by decide +kernel) ?_
                                      refine lv_iload_n hx hb dX12_copies_300 rfl (lv_at hl 0 rfl) ?_
                                      refine lv_iadd hx hb dX12_copies_301 ?_
                                      refine x_eqi (show (12800 : Int32) + (nI (i)) = (nI (12800 + i)) from nI_add 12800 i) ?_
                                      refine lv_aload_n hx hb dX12_copies_302 rfl (lv_at hl 1 rfl) ?_
                                      refine x_get (own := RX12) (T := TX12) C X 0 rfl rfl 10 (by decide) k_10_3 rfl rfl (v := .ref (a 11)) rfl dX12_copies_303 ?_
                                      refine lv_sipush (v := (12800 : Int32)) hx hb dX12_copies_306 (by decide) ?_
                                      refine lv_iload_n hx hb dX12_copies_309 rfl (lv_at hl 2 rfl) ?_
                                      refine lv_imul hx hb dX12_copies_310 ?_
                                      refine x_eqi (show (12800 : Int32) * (0 : Int32) = (0 : Int32) from by decide +kernel) ?_
                                      refine lv_iload_n hx hb dX12_copies_311 rfl (lv_at hl 0 rfl) ?_
                                      refine lv_iadd hx hb dX12_copies_312 ?_
                                      refine x_eqi (show (0 : Int32) + (nI (i)) = (nI (0 + i)) from nI_add 0 i) ?_
                                      refine x_iald C X 11 0 rfl rfl (j := 0 + i) (nI_clamp (by omega)) (vp_in_nI (by omega) (by omega)) (v := ((f284_0) (0 + i))) (rfl) dX12_copies_313 ?_
                                      refine x_iast C X 11 0 rfl rfl (j := 12800 + i) (nI_clamp (by omega)) (vp_in_nI (by omega) (by omega)) dX12_copies_314 (fun H locs X => ?_)
                                      have X : Wd D A s [((a 0), .inr (12, (mF a).set 12 (.int (1 : Int32)))), ((a 1), .inl (cI, 4, .inl (fun _ => (0 : Int32)))), ((a 2), .inl (cI, 4, .inl (fun _ => (0 : Int32)))), ((a 3), .inl (cI, 4, .inl (fun _ => (0 : Int32)))), ((a 4), .inl (cJ, 4, .inr (.inl (vp_updL (vp_updL (fun _ => (0 : Int64)) (0) ((1 : Int64))) (1) (((vp_updL (fun _ => (0 : Int64)) (0) ((1 : Int64))) (0))))))), ((a 5), .inl (cI, 320, .inl (f50_0))), ((a 6), .inl (cI, 96, .inl (f86_0))), ((a 7), .inl (cI, 160, .inl (f122_0))), ((a 8), .inl (cZ, 12800, .inl (f221_0))), ((a 9), .inl (cZ, 3200, .inl (f158_0))), ((a 10), .inl (cI, 12800, .inl (f221_1))), ((a 11), .inl (cI, 51200, .inl (upd (f284_0) (12800 + i) (((f284_0) (0 + i)))))), ((a 12), .inl (cI, 3200, .inl (f158_1)))] H locs := X
                                      refine lv_iinc (v := (nI (i + 1))) (lv' := [(3, .int (nI (i + 1))), (0, .ref (a 0)), (1, .int (0 : Int32)), (2, .int (1 : Int32))]) hx hb dX12_copies_315 hl (k := 0) rfl (nI_add _ 1) (by decide) rfl (fun ls hl => ?_)
                                      refine lv_goto (tgt := 284) hx hb dX12_copies_318 (by decide) ?_
                                      exact ih284  (i + 1) (upd (f284_0) (12800 + i) (((f284_0) (0 + i)))) H locs ls (by omega) (by omega) (x_sub X [0, 1, 2, 3, 4, 5, 6, 7, 8, 9, 10, 11, 12] (by decide) rfl) (lv_sub hl [0, 1, 2, 3] rfl)
                                exact L284 (12800 + 1) (0) (fun _ => (0 : Int32)) H locs ls (by omega) (by omega) (x_sub X [0, 1, 2, 3, 4, 5, 6, 7, 8, 9, 10, 11, 12] (by decide) rfl) (lv_sub hl [0, 1, 2, 3] rfl)
                              · have fc_5 : ((i : Nat) : Int) < (3200 : Int) := (by have h9 := i_nle c_5; simp only [nI_toInt (n := i) (by omega)] at h9; exact h9)
                                refine lv_aload_n hx hb dX12_copies_228 rfl (lv_at hl 1 rfl) ?_
                                refine x_get (own := RX12) (T := TX12) C X 0 rfl rfl 7 (by decide) k_9_23 rfl rfl (v := .ref (a 8)) rfl dX12_copies_229 ?_
                                refine lv_sipush (v := (3200 : Int32)) hx hb dX12_copies_232 (by decide) ?_
                                refine lv_iload_n hx hb dX12_copies_235 rfl (lv_at hl 3 rfl) ?_
                                refine lv_imul hx hb dX12_copies_236 ?_
                                refine x_eqi (show (3200 : Int32) * (1 : Int32) = (3200 : Int32) from by decide +kernel) ?_
                                refine lv_iload_n hx hb dX12_copies_237 rfl (lv_at hl 0 rfl) ?_
                                refine lv_iadd hx hb dX12_copies_238 ?_
                                refine x_eqi (show (3200 : Int32) + (nI (i)) = (nI (3200 + i)) from nI_add 3200 i) ?_
                                refine lv_aload_n hx hb dX12_copies_239 rfl (lv_at hl 1 rfl) ?_
                                refine x_get (own := RX12) (T := TX12) C X 0 rfl rfl 7 (by decide) k_9_23 rfl rfl (v := .ref (a 8)) rfl dX12_copies_240 ?_
                                refine lv_sipush (v := (3200 : Int32)) hx hb dX12_copies_243 (by decide) ?_
                                refine lv_iload_n hx hb dX12_copies_246 rfl (lv_at hl 2 rfl) ?_
                                refine lv_imul hx hb dX12_copies_247 ?_
                                refine x_eqi (show (3200 : Int32) * (0 : Int32) = (0 : Int32) from by decide +kernel) ?_
                                refine lv_iload_n hx hb dX12_copies_248 rfl (lv_at hl 0 rfl) ?_
                                refine lv_iadd hx hb dX12_copies_249 ?_
                                refine x_eqi (show (0 : Int32) + (nI (i)) = (nI (0 + i)) from nI_add 0 i) ?_
                                refine x_zald C X 8 2 rfl rfl (j := 0 + i) (nI_clamp (by omega)) (vp_in_nI (by omega) (by omega)) (v := ((f221_0) (0 + i))) (rfl) dX12_copies_250 ?_
                                refine x_zast C X 8 2 rfl rfl (j := 3200 + i) (nI_clamp (by omega)) (vp_in_nI (by omega) (by omega)) dX12_copies_251 (fun H locs X => ?_)
                                have X : Wd D A s [((a 0), .inr (12, (mF a).set 12 (.int (1 : Int32)))), ((a 1), .inl (cI, 4, .inl (fun _ => (0 : Int32)))), ((a 2), .inl (cI, 4, .inl (fun _ => (0 : Int32)))), ((a 3), .inl (cI, 4, .inl (fun _ => (0 : Int32)))), ((a 4), .inl (cJ, 4, .inr (.inl (vp_updL (vp_updL (fun _ => (0 : Int64)) (0) ((1 : Int64))) (1) (((vp_updL (fun _ => (0 : Int64)) (0) ((1 : Int64))) (0))))))), ((a 5), .inl (cI, 320, .inl (f50_0))), ((a 6), .inl (cI, 96, .inl (f86_0))), ((a 7), .inl (cI, 160, .inl (f122_0))), ((a 8), .inl (cZ, 12800, .inl (upd (f221_0) (3200 + i) (vp_nar .boolean ((f221_0) (0 + i)))))), ((a 9), .inl (cZ, 3200, .inl (f158_0))), ((a 10), .inl (cI, 12800, .inl (f221_1))), ((a 11), .inl (cI, 51200, .inl (fun _ => (0 : Int32)))), ((a 12), .inl (cI, 3200, .inl (f158_1)))] H locs := X
                                refine lv_aload_n hx hb dX12_copies_252 rfl (lv_at hl 1 rfl) ?_
                                refine x_get (own := RX12) (T := TX12) C X 0 rfl rfl 9 (by decide) k_10_1 rfl rfl (v := .ref (a 10)) rfl dX12_copies_253 ?_
                                refine lv_sipush (v := (3200 : Int32)) hx hb dX12_copies_256 (by decide) ?_
                                refine lv_iload_n hx hb dX12_copies_259 rfl (lv_at hl 3 rfl) ?_
                                refine lv_imul hx hb dX12_copies_260 ?_
                                refine x_eqi (show (3200 : Int32) * (1 : Int32) = (3200 : Int32) from by decide +kernel) ?_
                                refine lv_iload_n hx hb dX12_copies_261 rfl (lv_at hl 0 rfl) ?_
                                refine lv_iadd hx hb dX12_copies_262 ?_
                                refine x_eqi (show (3200 : Int32) + (nI (i)) = (nI (3200 + i)) from nI_add 3200 i) ?_
                                refine lv_aload_n hx hb dX12_copies_263 rfl (lv_at hl 1 rfl) ?_
                                refine x_get (own := RX12) (T := TX12) C X 0 rfl rfl 9 (by decide) k_10_1 rfl rfl (v := .ref (a 10)) rfl dX12_copies_264 ?_
                                refine lv_sipush (v := (3200 : Int32)) hx hb dX12_copies_267 (by decide) ?_
                                refine lv_iload_n hx hb dX12_copies_270 rfl (lv_at hl 2 rfl) ?_
                                refine lv_imul hx hb dX12_copies_271 ?_
                                refine x_eqi (show (3200 : Int32) * (0 : Int32) = (0 : Int32) from by decide +kernel) ?_
                                refine lv_iload_n hx hb dX12_copies_272 rfl (lv_at hl 0 rfl) ?_
                                refine lv_iadd hx hb dX12_copies_273 ?_
                                refine x_eqi (show (0 : Int32) + (nI (i)) = (nI (0 + i)) from nI_add 0 i) ?_
                                refine x_iald C X 10 0 rfl rfl (j := 0 + i) (nI_clamp (by omega)) (vp_in_nI (by omega) (by omega)) (v := ((f221_1) (0 + i))) (rfl) dX12_copies_274 ?_
                                refine x_iast C X 10 0 rfl rfl (j := 3200 + i) (nI_clamp (by omega)) (vp_in_nI (by omega) (by omega)) dX12_copies_275 (fun H locs X => ?_)
                                have X : Wd D A s [((a 0), .inr (12, (mF a).set 12 (.int (1 : Int32)))), ((a 1), .inl (cI, 4, .inl (fun _ => (0 : Int32)))), ((a 2), .inl (cI, 4, .inl (fun _ => (0 : Int32)))), ((a 3), .inl (cI, 4, .inl (fun _ => (0 : Int32)))), ((a 4), .inl (cJ, 4, .inr (.inl (vp_updL (vp_updL (fun _ => (0 : Int64)) (0) ((1 : Int64))) (1) (((vp_updL (fun _ => (0 : Int64)) (0) ((1 : Int64))) (0))))))), ((a 5), .inl (cI, 320, .inl (f50_0))), ((a 6), .inl (cI, 96, .inl (f86_0))), ((a 7), .inl (cI, 160, .inl (f122_0))), ((a 8), .inl (cZ, 12800, .inl (upd (f221_0) (3200 + i) (vp_nar .boolean ((f221_0) (0 + i)))))), ((a 9), .inl (cZ, 3200, .inl (f158_0))), ((a 10), .inl (cI, 12800, .inl (upd (f221_1) (3200 + i) (((f221_1) (0 + i)))))), ((a 11), .inl (cI, 51200, .inl (fun _ => (0 : Int32)))), ((a 12), .inl (cI, 3200, .inl (f158_1)))] H locs := X
                                refine lv_iinc (v := (nI (i + 1))) (lv' := [(3, .int (nI (i + 1))), (0, .ref (a 0)), (1, .int (0 : Int32)), (2, .int (1 : Int32))]) hx hb dX12_copies_276 hl (k := 0) rfl (nI_add _ 1) (by decide) rfl (fun ls hl => ?_)
                                refine lv_goto (tgt := 221) hx hb dX12_copies_279 (by decide) ?_
                                exact ih221  (i + 1) (upd (f221_0) (3200 + i) (vp_nar .boolean ((f221_0) (0 + i)))) (upd (f221_1) (3200 + i) (((f221_1) (0 + i)))) H locs ls (by omega) (by omega) (x_sub X [0, 1, 2, 3, 4, 5, 6, 7, 8, 9, 10, 11, 12] (by decide) rfl) (lv_sub hl [0, 1, 2, 3] rfl)
                          exact L221 (3200 + 1) (0) (fun _ => (0 : Int32)) (fun _ => (0 : Int32)) H locs ls (by omega) (by omega) (x_sub X [0, 1, 2, 3, 4, 5, 6, 7, 8, 9, 10, 11, 12] (by decide) rfl) (lv_sub hl [0, 1, 2, 3] rfl)
                        · have fc_4 : ((i : Nat) : Int) < (800 : Int) := (by have h9 := i_nle c_4; simp only [nI_toInt (n := i) (by omega)] at h9; exact h9)
                          refine lv_aload_n hx hb dX12_copies_165 rfl (lv_at hl 1 rfl) ?_
                          refine x_get (own := RX12) (T := TX12) C X 0 rfl rfl 8 (by decide) k_10_0 rfl rfl (v := .ref (a 9)) rfl dX12_copies_166 ?_
                          refine lv_sipush (v := (800 : Int32)) hx hb dX12_copies_169 (by decide) ?_
                          refine lv_iload_n hx hb dX12_copies_172 rfl (lv_at hl 3 rfl) ?_
                          refine lv_imul hx hb dX12_copies_173 ?_
                          refine x_eqi (show (800 : Int32) * (1 : Int32) = (800 : Int32) from by decide +kernel) ?_
                          refine lv_iload_n hx hb dX12_copies_174 rfl (lv_at hl 0 rfl) ?_
                          refine lv_iadd hx hb dX12_copies_175 ?_
                          refine x_eqi (show (800 : Int32) + (nI (i)) = (nI (800 + i)) from nI_add 800 i) ?_
                          refine lv_aload_n hx hb dX12_copies_176 rfl (lv_at hl 1 rfl) ?_
                          refine x_get (own := RX12) (T := TX12) C X 0 rfl rfl 8 (by decide) k_10_0 rfl rfl (v := .ref (a 9)) rfl dX12_copies_177 ?_
                          refine lv_sipush (v := (800 : Int32)) hx hb dX12_copies_180 (by decide) ?_
                          refine lv_iload_n hx hb dX12_copies_183 rfl (lv_at hl 2 rfl) ?_
                          refine lv_imul hx hb dX12_copies_184 ?_
                          refine x_eqi (show (800 : Int32) * (0 : Int32) = (0 : Int32) from by decide +kernel) ?_
                          refine lv_iload_n hx hb dX12_copies_185 rfl (lv_at hl 0 rfl) ?_
                          refine lv_iadd hx hb dX12_copies_186 ?_
                          refine x_eqi (show (0 : Int32) + (nI (i)) = (nI (0 + i)) from nI_add 0 i) ?_
                          refine x_zald C X 9 2 rfl rfl (j := 0 + i) (nI_clamp (by omega)) (vp_in_nI (by omega) (by omega)) (v := ((f158_0) (0 + i))) (rfl) dX12_copies_187 ?_
                          refine x_zast C X 9 2 rfl rfl (j := 800 + i) (nI_clamp (by omega)) (vp_in_nI (by omega) (by omega)) dX12_copies_188 (fun H locs X => ?_)
                          have X : Wd D A s [((a 0), .inr (12, (mF a).set 12 (.int (1 : Int32)))), ((a 1), .inl (cI, 4, .inl (fun _ => (0 : Int32)))), ((a 2), .inl (cI, 4, .inl (fun _ => (0 : Int32)))), ((a 3), .inl (cI, 4, .inl (fun _ => (0 : Int32)))), ((a 4), .inl (cJ, 4, .inr (.inl (vp_updL (vp_updL (fun _ => (0 : Int64)) (0) ((1 : Int64))) (1) (((vp_updL (fun _ => (0 : Int64)) (0) ((1 : Int64))) (0))))))), ((a 5), .inl (cI, 320, .inl (f50_0))), ((a 6), .inl (cI, 96, .inl (f86_0))), ((a 7), .inl (cI, 160, .inl (f122_0))), ((a 8), .inl (cZ, 12800, .inl (fun _ => (0 : Int32)))), ((a 9), .inl (cZ, 3200, .inl (upd (f158_0) (800 + i) (vp_nar .boolean ((f158_0) (0 + i)))))), ((a 10), .inl (cI, 12800, .inl (fun _ => (0 : Int32)))), ((a 11), .inl (cI, 51200, .inl (fun _ => (0 : Int32)))), ((a 12), .inl (cI, 3200, .inl (f158_1)))] H locs := X
                          refine lv_aload_n hx hb dX12_copies_189 rfl (lv_at hl 1 rfl) ?_
                          refine x_get (own := RX12) (T := TX12) C X 0 rfl rfl 11 (by decide) k_10_4 rfl rfl (v := .ref (a 12)) rfl dX12_copies_190 ?_
                          refine lv_sipush (v := (800 : Int32)) hx hb dX12_copies_193 (by decide) ?_
                          refine lv_iload_n hx hb dX12_copies_196 rfl (lv_at hl 3 rfl) ?_
                          refine lv_imul hx hb dX12_copies_197 ?_
                          refine x_eqi (show (800 : Int32) * (1 : Int32) = (800 : Int32) from by decide +kernel) ?_
                          refine lv_iload_n hx hb dX12_copies_198 rfl (lv_at hl 0 rfl) ?_
                          refine lv_iadd hx hb dX12_copies_199 ?_
                          refine x_eqi (show (800 : Int32) + (nI (i)) = (nI (800 + i)) from nI_add 800 i) ?_
                          refine lv_aload_n hx hb dX12_copies_200 rfl (lv_at hl 1 rfl) ?_
                          refine x_get (own := RX12) (T := TX12) C X 0 rfl rfl 11 (by decide) k_10_4 rfl rfl (v := .ref (a 12)) rfl dX12_copies_201 ?_
                          refine lv_sipush (v := (800 : Int32)) hx hb dX12_copies_204 (by decide) ?_
                          refine lv_iload_n hx hb dX12_copies_207 rfl (lv_at hl 2 rfl) ?_
                          refine lv_imul hx hb dX12_copies_208 ?_
                          refine x_eqi (show (800 : Int32) * (0 : Int32) = (0 : Int32) from by decide +kernel) ?_
                          refine lv_iload_n hx hb dX12_copies_209 rfl (lv_at hl 0 rfl) ?_
                          refine lv_iadd hx hb dX12_copies_210 ?_
                          refine x_eqi (show (0 : Int32) + (nI (i)) = (nI (0 + i)) from nI_add 0 i) ?_
                          refine x_iald C X 12 0 rfl rfl (j := 0 + i) (nI_clamp (by omega)) (vp_in_nI (by omega) (by omega)) (v := ((f158_1) (0 + i))) (rfl) dX12_copies_211 ?_
                          refine x_iast C X 12 0 rfl rfl (j := 800 + i) (nI_clamp (by omega)) (vp_in_nI (by omega) (by omega)) dX12_copies_212 (fun H locs X => ?_)
                          have X : Wd D A s [((a 0), .inr (12, (mF a).set 12 (.int (1 : Int32)))), ((a 1), .inl (cI, 4, .inl (fun _ => (0 : Int32)))), ((a 2), .inl (cI, 4, .inl (fun _ => (0 : Int32)))), ((a 3), .inl (cI, 4, .inl (fun _ => (0 : Int32)))), ((a 4), .inl (cJ, 4, .inr (.inl (vp_updL (vp_updL (fun _ => (0 : Int64)) (0) ((1 : Int64))) (1) (((vp_updL (fun _ => (0 : Int64)) (0) ((1 : Int64))) (0))))))), ((a 5), .inl (cI, 320, .inl (f50_0))), ((a 6), .inl (cI, 96, .inl (f86_0))), ((a 7), .inl (cI, 160, .inl (f122_0))), ((a 8), .inl (cZ, 12800, .inl (fun _ => (0 : Int32)))), ((a 9), .inl (cZ, 3200, .inl (upd (f158_0) (800 + i) (vp_nar .boolean ((f158_0) (0 + i)))))), ((a 10), .inl (cI, 12800, .inl (fun _ => (0 : Int32)))), ((a 11), .inl (cI, 51200, .inl (fun _ => (0 : Int32)))), ((a 12), .inl (cI, 3200, .inl (upd (f158_1) (800 + i) (((f158_1) (0 + i))))))] H locs := X
                          refine lv_iinc (v := (nI (i + 1))) (lv' := [(3, .int (nI (i + 1))), (0, .ref (a 0)), (1, .int (0 : Int32)), (2, .int (1 : Int32))]) hx hb dX12_copies_213 hl (k := 0) rfl (nI_add _ 1) (by decide) rfl (fun ls hl => ?_)
                          refine lv_goto (tgt := 158) hx hb dX12_copies_216 (by decide) ?_
                          exact ih158  (i + 1) (upd (f158_0) (800 + i) (vp_nar .boolean ((f158_0) (0 + i)))) (upd (f158_1) (800 + i) (((f158_1) (0 + i)))) H locs ls (by omega) (by omega) (x_sub X [0, 1, 2, 3, 4, 5, 6, 7, 8, 9, 10, 11, 12] (by decide) rfl) (lv_sub hl [0, 1, 2, 3] rfl)
                    exact L158 (800 + 1) (0) (fun _ => (0 : Int32)) (fun _ => (0 : Int32)) H locs ls (by omega) (by omega) (x_sub X [0, 1, 2, 3, 4, 5, 6, 7, 8, 9, 10, 11, 12] (by decide) rfl) (lv_sub hl [0, 1, 2, 3] rfl)
                  · have fc_3 : ((i : Nat) : Int) < (40 : Int) := (by have h9 := i_nle c_3; simp only [nI_toInt (n := i) (by omega)] at h9; exact h9)
                    refine lv_aload_n hx hb dX12_copies_128 rfl (lv_at hl 1 rfl) ?_
                    refine x_get (own := RX12) (T := TX12) C X 0 rfl rfl 6 (by decide) k_9_22 rfl rfl (v := .ref (a 7)) rfl dX12_copies_129 ?_
                    refine lv_bipush (v := (40 : Int32)) hx hb dX12_copies_132 (by decide) ?_
                    refine lv_iload_n hx hb dX12_copies_134 rfl (lv_at hl 3 rfl) ?_
                    refine lv_imul hx hb dX12_copies_135 ?_
                    refine x_eqi (show (40 : Int32) * (1 : Int32) = (40 : Int32) from by decide +kernel) ?_
                    refine lv_iload_n hx hb dX12_copies_136 rfl (lv_at hl 0 rfl) ?_
                    refine lv_iadd hx hb dX12_copies_137 ?_
                    refine x_eqi (show (40 : Int32) + (nI (i)) = (nI (40 + i)) from nI_add 40 i) ?_
                    refine lv_aload_n hx hb dX12_copies_138 rfl (lv_at hl 1 rfl) ?_
                    refine x_get (own := RX12) (T := TX12) C X 0 rfl rfl 6 (by decide) k_9_22 rfl rfl (v := .ref (a 7)) rfl dX12_copies_139 ?_
                    refine lv_bipush (v := (40 : Int32)) hx hb dX12_copies_142 (by decide) ?_
                    refine lv_iload_n hx hb dX12_copies_144 rfl (lv_at hl 2 rfl) ?_
                    refine lv_imul hx hb dX12_copies_145 ?_
                    refine x_eqi (show (40 : Int32) * (0 : Int32) = (0 : Int32) from by decide +kernel) ?_
                    refine lv_iload_n hx hb dX12_copies_146 rfl (lv_at hl 0 rfl) ?_
                    refine lv_iadd hx hb dX12_copies_147 ?_
                    refine x_eqi (show (0 : Int32) + (nI (i)) = (nI (0 + i)) from nI_add 0 i) ?_
                    refine x_iald C X 7 0 rfl rfl (j := 0 + i) (nI_clamp (by omega)) (vp_in_nI (by omega) (by omega)) (v := ((f122_0) (0 + i))) (rfl) dX12_copies_148 ?_
                    refine x_iast C X 7 0 rfl rfl (j := 40 + i) (nI_clamp (by omega)) (vp_in_nI (by omega) (by omega)) dX12_copies_149 (fun H locs X => ?_)
                    have X : Wd D A s [((a 0), .inr (12, (mF a).set 12 (.int (1 : Int32)))), ((a 1), .inl (cI, 4, .inl (fun _ => (0 : Int32)))), ((a 2), .inl (cI, 4, .inl (fun _ => (0 : Int32)))), ((a 3), .inl (cI, 4, .inl (fun _ => (0 : Int32)))), ((a 4), .inl (cJ, 4, .inr (.inl (vp_updL (vp_updL (fun _ => (0 : Int64)) (0) ((1 : Int64))) (1) (((vp_updL (fun _ => (0 : Int64)) (0) ((1 : Int64))) (0))))))), ((a 5), .inl (cI, 320, .inl (f50_0))), ((a 6), .inl (cI, 96, .inl (f86_0))), ((a 7), .inl (cI, 160, .inl (upd (f122_0) (40 + i) (((f122_0) (0 + i)))))), ((a 8), .inl (cZ, 12800, .inl (fun _ => (0 : Int32)))), ((a 9), .inl (cZ, 3200, .inl (fun _ => (0 : Int32)))), ((a 10), .inl (cI, 12800, .inl (fun _ => (0 : Int32)))), ((a 11), .inl (cI, 51200, .inl (fun _ => (0 : Int32)))), ((a 12), .inl (cI, 3200, .inl (fun _ => (0 : Int32))))] H locs := X
                    refine lv_iinc (v := (nI (i + 1))) (lv' := [(3, .int (nI (i + 1))), (0, .ref (a 0)), (1, .int (0 : Int32)), (2, .int (1 : Int32))]) hx hb dX12_copies_150 hl (k := 0) rfl (nI_add _ 1) (by decide) rfl (fun ls hl => ?_)
                    refine lv_goto (tgt := 122) hx hb dX12_copies_153 (by decide) ?_
                    exact ih122  (i + 1) (upd (f122_0) (40 + i) (((f122_0) (0 + i)))) H locs ls (by omega) (by omega) (x_sub X [0, 1, 2, 3, 4, 5, 6, 7, 8, 9, 10, 11, 12] (by decide) rfl) (lv_sub hl [0, 1, 2, 3] rfl)
              exact L122 (40 + 1) (0) (wk0) H locs ls (by omega) (by omega) (x_sub X [0, 1, 2, 3, 4, 5, 6, 7, 8, 9, 10, 11, 12] (by decide) rfl) (lv_sub hl [0, 1, 2, 3] rfl)
            · have fc_2 : ((i : Nat) : Int) < (24 : Int) := (by have h9 := i_nle c_2; simp only [nI_toInt (n := i) (by omega)] at h9; exact h9)
              refine lv_aload_n hx hb dX12_copies_92 rfl (lv_at hl 1 rfl) ?_
              refine x_get (own := RX12) (T := TX12) C X 0 rfl rfl 5 (by decide) k_9_21 rfl rfl (v := .ref (a 6)) rfl dX12_copies_93 ?_
              refine lv_bipush (v := (24 : Int32)) hx hb dX12_copies_96 (by decide) ?_
              refine lv_iload_n hx hb dX12_copies_98 rfl (lv_at hl 3 rfl) ?_
              refine lv_imul hx hb dX12_copies_99 ?_
              refine x_eqi (show (24 : Int32) * (1 : Int32) = (24 : Int32) from by decide +kernel) ?_
              refine lv_iload_n hx hb dX12_copies_100 rfl (lv_at hl 0 rfl) ?_
              refine lv_iadd hx hb dX12_copies_101 ?_
              refine x_eqi (show (24 : Int32) + (nI (i)) = (nI (24 + i)) from nI_add 24 i) ?_
              refine lv_aload_n hx hb dX12_copies_102 rfl (lv_at hl 1 rfl) ?_
              refine x_get (own := RX12) (T := TX12) C X 0 rfl rfl 5 (by decide) k_9_21 rfl rfl (v := .ref (a 6)) rfl dX12_copies_103 ?_
              refine lv_bipush (v := (24 : Int32)) hx hb dX12_copies_106 (by decide) ?_
              refine lv_iload_n hx hb dX12_copies_108 rfl (lv_at hl 2 rfl) ?_
              refine lv_imul hx hb dX12_copies_109 ?_
              refine x_eqi (show (24 : Int32) * (0 : Int32) = (0 : Int32) from by decide +kernel) ?_
              refine lv_iload_n hx hb dX12_copies_110 rfl (lv_at hl 0 rfl) ?_
              refine lv_iadd hx hb dX12_copies_111 ?_
              refine x_eqi (show (0 : Int32) + (nI (i)) = (nI (0 + i)) from nI_add 0 i) ?_
              refine x_iald C X 6 0 rfl rfl (j := 0 + i) (nI_clamp (by omega)) (vp_in_nI (by omega) (by omega)) (v := ((f86_0) (0 + i))) (rfl) dX12_copies_112 ?_
              refine x_iast C X 6 0 rfl rfl (j := 24 + i) (nI_clamp (by omega)) (vp_in_nI (by omega) (by omega)) dX12_copies_113 (fun H locs X => ?_)
              have X : Wd D A s [((a 0), .inr (12, (mF a).set 12 (.int (1 : Int32)))), ((a 1), .inl (cI, 4, .inl (fun _ => (0 : Int32)))), ((a 2), .inl (cI, 4, .inl (fun _ => (0 : Int32)))), ((a 3), .inl (cI, 4, .inl (fun _ => (0 : Int32)))), ((a 4), .inl (cJ, 4, .inr (.inl (vp_updL (vp_updL (fun _ => (0 : Int64)) (0) ((1 : Int64))) (1) (((vp_updL (fun _ => (0 : Int64)) (0) ((1 : Int64))) (0))))))), ((a 5), .inl (cI, 320, .inl (f50_0))), ((a 6), .inl (cI, 96, .inl (upd (f86_0) (24 + i) (((f86_0) (0 + i)))))), ((a 7), .inl (cI, 160, .inl (wk0))), ((a 8), .inl (cZ, 12800, .inl (fun _ => (0 : Int32)))), ((a 9), .inl (cZ, 3200, .inl (fun _ => (0 : Int32)))), ((a 10), .inl (cI, 12800, .inl (fun _ => (0 : Int32)))), ((a 11), .inl (cI, 51200, .inl (fun _ => (0 : Int32)))), ((a 12), .inl (cI, 3200, .inl (fun _ => (0 : Int32))))] H locs := X
              refine lv_iinc (v := (nI (i + 1))) (lv' := [(3, .int (nI (i + 1))), (0, .ref (a 0)), (1, .int (0 : Int32)), (2, .int (1 : Int32))]) hx hb dX12_copies_114 hl (k := 0) rfl (nI_add _ 1) (by decide) rfl (fun ls hl => ?_)
              refine lv_goto (tgt := 86) hx hb dX12_copies_117 (by decide) ?_
              exact ih86  (i + 1) (upd (f86_0) (24 + i) (((f86_0) (0 + i)))) H locs ls (by omega) (by omega) (x_sub X [0, 1, 2, 3, 4, 5, 6, 7, 8, 9, 10, 11, 12] (by decide) rfl) (lv_sub hl [0, 1, 2, 3] rfl)
        exact L86 (24 + 1) (0) (fun _ => (0 : Int32)) H locs ls (by omega) (by omega) (x_sub X [0, 1, 2, 3, 4, 5, 6, 7, 8, 9, 10, 11, 12] (by decide) rfl) (lv_sub hl [0, 1, 2, 3] rfl)
      · have fc_1 : ((i : Nat) : Int) < (80 : Int) := (by have h9 := i_nle c_1; simp only [nI_toInt (n := i) (by omega)] at h9; exact h9)
        refine lv_aload_n hx hb dX12_copies_56 rfl (lv_at hl 1 rfl) ?_
        refine x_get (own := RX12) (T := TX12) C X 0 rfl rfl 4 (by decide) k_9_20 rfl rfl (v := .ref (a 5)) rfl dX12_copies_57 ?_
        refine lv_bipush (v := (80 : Int32)) hx hb dX12_copies_60 (by decide) ?_
        refine lv_iload_n hx hb dX12_copies_62 rfl (lv_at hl 3 rfl) ?_
        refine lv_imul hx hb dX12_copies_63 ?_
        refine x_eqi (show (80 : Int32) * (1 : Int32) = (80 : Int32) from by decide +kernel) ?_
        refine lv_iload_n hx hb dX12_copies_64 rfl (lv_at hl 0 rfl) ?_
        refine lv_iadd hx hb dX12_copies_65 ?_
        refine x_eqi (show (80 : Int32) + (nI (i)) = (nI (80 + i)) from nI_add 80 i) ?_
        refine lv_aload_n hx hb dX12_copies_66 rfl (lv_at hl 1 rfl) ?_
        refine x_get (own := RX12) (T := TX12) C X 0 rfl rfl 4 (by decide) k_9_20 rfl rfl (v := .ref (a 5)) rfl dX12_copies_67 ?_
        refine lv_bipush (v := (80 : Int32)) hx hb dX12_copies_70 (by decide) ?_
        refine lv_iload_n hx hb dX12_copies_72 rfl (lv_at hl 2 rfl) ?_
        refine lv_imul hx hb dX12_copies_73 ?_
        refine x_eqi (show (80 : Int32) * (0 : Int32) = (0 : Int32) from by decide +kernel) ?_
        refine lv_iload_n hx hb dX12_copies_74 rfl (lv_at hl 0 rfl) ?_
        refine lv_iadd hx hb dX12_copies_75 ?_
        refine x_eqi (show (0 : Int32) + (nI (i)) = (nI (0 + i)) from nI_add 0 i) ?_
        refine x_iald C X 5 0 rfl rfl (j := 0 + i) (nI_clamp (by omega)) (vp_in_nI (by omega) (by omega)) (v := ((f50_0) (0 + i))) (rfl) dX12_copies_76 ?_
        refine x_iast C X 5 0 rfl rfl (j := 80 + i) (nI_clamp (by omega)) (vp_in_nI (by omega) (by omega)) dX12_copies_77 (fun H locs X => ?_)
        have X : Wd D A s [((a 0), .inr (12, (mF a).set 12 (.int (1 : Int32)))), ((a 1), .inl (cI, 4, .inl (fun _ => (0 : Int32)))), ((a 2), .inl (cI, 4, .inl (fun _ => (0 : Int32)))), ((a 3), .inl (cI, 4, .inl (fun _ => (0 : Int32)))), ((a 4), .inl (cJ, 4, .inr (.inl (vp_updL (vp_updL (fun _ => (0 : Int64)) (0) ((1 : Int64))) (1) (((vp_updL (fun _ => (0 : Int64)) (0) ((1 : Int64))) (0))))))), ((a 5), .inl (cI, 320, .inl (upd (f50_0) (80 + i) (((f50_0) (0 + i)))))), ((a 6), .inl (cI, 96, .inl (fun _ => (0 : Int32)))), ((a 7), .inl (cI, 160, .inl (wk0))), ((a 8), .inl (cZ, 12800, .inl (fun _ => (0 : Int32)))), ((a 9), .inl (cZ, 3200, .inl (fun _ => (0 : Int32)))), ((a 10), .inl (cI, 12800, .inl (fun _ => (0 : Int32)))), ((a 11), .inl (cI, 51200, .inl (fun _ => (0 : Int32)))), ((a 12), .inl (cI, 3200, .inl (fun _ => (0 : Int32))))] H locs := X
        refine lv_iinc (v := (nI (i + 1))) (lv' := [(3, .int (nI (i + 1))), (0, .ref (a 0)), (1, .int (0 : Int32)), (2, .int (1 : Int32))]) hx hb dX12_copies_78 hl (k := 0) rfl (nI_add _ 1) (by decide) rfl (fun ls hl => ?_)
        refine lv_goto (tgt := 50) hx hb dX12_copies_81 (by decide) ?_
        exact ih50  (i + 1) (upd (f50_0) (80 + i) (((f50_0) (0 + i)))) H locs ls (by omega) (by omega) (x_sub X [0, 1, 2, 3, 4, 5, 6, 7, 8, 9, 10, 11, 12] (by decide) rfl) (lv_sub hl [0, 1, 2, 3] rfl)
  exact L50 (80 + 1) (0) (fun _ => (0 : Int32)) H locs ls (by omega) (by omega) (x_sub X [0, 1, 2, 3, 4, 5, 6, 7, 8, 9, 10, 11, 12] (by decide) rfl) (lv_sub hl [0, 1, 2, 3] rfl)
set_option maxHeartbeats 4000000 in
set_option maxRecDepth 100000 in
theorem cm_image (l : Launch) (D : va_G) (cI cJ cZ cB : ClassId) (cO : ClassId) (a : Nat → Nat) :
    CI l D [(cI, .int), (cJ, .long), (cZ, .boolean), (cB, .byte), (cO, .object "LuckLinks$World")] yX12_image cX12_image 1 (some .int) ({ frames := 1, cells := 0, slots := 0, locals := 23 } : Room) [.ref (a 0)] [((a 0), .inr (12, (mF a))), ((a 1), .inl (cI, 4, .inl (fun _ => (0 : Int32)))), ((a 2), .inl (cI, 4, .inl (fun _ => (0 : Int32)))), ((a 3), .inl (cI, 4, .inl (fun _ => (0 : Int32)))), ((a 4), .inl (cJ, 4, .inr (.inl (vp_updL (fun _ => (0 : Int64)) (0) ((1 : Int64)))))), ((a 5), .inl (cI, 320, .inl (fun _ => (0 : Int32)))), ((a 6), .inl (cI, 96, .inl (fun _ => (0 : Int32)))), ((a 7), .inl (cI, 160, .inl (wk0))), ((a 8), .inl (cZ, 12800, .inl (fun _ => (0 : Int32)))), ((a 9), .inl (cZ, 3200, .inl (fun _ => (0 : Int32)))), ((a 10), .inl (cI, 12800, .inl (fun _ => (0 : Int32)))), ((a 11), .inl (cI, 51200, .inl (fun _ => (0 : Int32)))), ((a 12), .inl (cI, 3200, .inl (fun _ => (0 : Int32))))] (fun (r : Int32) (u : Unit) => (r = (0 : Int32) ∧ True)) (fun (_ : Unit) => []) := by
  intro sz
  refine body_of (y := yX12_image) (cc := cX12_image) (maxL := 1) (ret := (some .int)) (rm := ({ frames := 1, cells := 0, slots := 0, locals := 23 } : Room)) (wc := [((a 0), .inr (12, (mF a))), ((a 1), .inl (cI, 4, .inl (fun _ => (0 : Int32)))), ((a 2), .inl (cI, 4, .inl (fun _ => (0 : Int32)))), ((a 3), .inl (cI, 4, .inl (fun _ => (0 : Int32)))), ((a 4), .inl (cJ, 4, .inr (.inl (vp_updL (fun _ => (0 : Int64)) (0) ((1 : Int64)))))), ((a 5), .inl (cI, 320, .inl (fun _ => (0 : Int32)))), ((a 6), .inl (cI, 96, .inl (fun _ => (0 : Int32)))), ((a 7), .inl (cI, 160, .inl (wk0))), ((a 8), .inl (cZ, 12800, .inl (fun _ => (0 : Int32)))), ((a 9), .inl (cZ, 3200, .inl (fun _ => (0 : Int32)))), ((a 10), .inl (cI, 12800, .inl (fun _ => (0 : Int32)))), ((a 11), .inl (cI, 51200, .inl (fun _ => (0 : Int32)))), ((a 12), .inl (cI, 3200, .inl (fun _ => (0 : Int32))))]) (tys := [(cI, .int), (cJ, .long), (cZ, .boolean), (cB, .byte), (cO, .object "LuckLinks$World")]) (D := D) (sz := sz) (own := RX12) (av := [.ref (a 0)]) (Qc := fun A => va_Qi (fun (r : Int32) (u : Unit) => (r = (0 : Int32) ∧ True)) (fun u t => Aft D A ((fun (_ : Unit) => []) u) t) A) (by decide) rfl (Nat.le_of_ble_eq_true rfl) (fun p e s m below meth c A ls C hr hlk hin X hl => ?_)
  have hx := C.1
  have hb := C.2.1
  have hown := C.2.2.2.1
  have hts := C.2.2.2.2.1
  have hl : lv_has ls 1 [(0, .ref (a 0))] := hl
  show W p l e _ s m _ below meth c s.heap [] 0 0 (MQ below (va_Qi (fun (r : Int32) (u : Unit) => (r = (0 : Int32) ∧ True)) (fun u t => Aft D A ((fun (_ : Unit) => []) u) t) A) ([.ref (a 0)] : List Value).toArray s 0 0 A) (F0 m 0 ls [])
  have X : Wd D A s [((a 0), .inr (12, (mF a))), ((a 1), .inl (cI, 4, .inl (fun _ => (0 : Int32)))), ((a 2), .inl (cI, 4, .inl (fun _ => (0 : Int32)))), ((a 3), .inl (cI, 4, .inl (fun _ => (0 : Int32)))), ((a 4), .inl (cJ, 4, .inr (.inl (vp_updL (fun _ => (0 : Int64)) (0) ((1 : Int64)))))), ((a 5), .inl (cI, 320, .inl (fun _ => (0 : Int32)))), ((a 6), .inl (cI, 96, .inl (fun _ => (0 : Int32)))), ((a 7), .inl (cI, 160, .inl (wk0))), ((a 8), .inl (cZ, 12800, .inl (fun _ => (0 : Int32)))), ((a 9), .inl (cZ, 3200, .inl (fun _ => (0 : Int32)))), ((a 10), .inl (cI, 12800, .inl (fun _ => (0 : Int32)))), ((a 11), .inl (cI, 51200, .inl (fun _ => (0 : Int32)))), ((a 12), .inl (cI, 3200, .inl (fun _ => (0 : Int32))))] s.heap [] := X
  obtain ⟨H, locs, eH, eL⟩ : ∃ H locs, H = s.heap ∧ locs = ([] : List Loc) := ⟨_, _, rfl, rfl⟩
  rw [← eH, ← eL] at X ⊢
  clear eH eL
  refine lv_aload_n hx hb dX12_image_0 rfl (lv_at hl 0 rfl) ?_
  refine x_get (own := RX12) (T := TX12) C X 0 rfl rfl 12 (by decide) k_66_16 rfl rfl (v := .int (0 : Int32)) rfl dX12_image_1 ?_
  refine lv_iconst (v := (3 : Int32)) hx hb dX12_image_4 (by decide) ?_
  refine lv_icmp_ne (tgt := 14) hx hb dX12_image_5 (by decide) (fun _ => ?_) (fun c0 => absurd c0 (by decide))
  refine lv_aload_n hx hb dX12_image_14 rfl (lv_at hl 0 rfl) ?_
  refine lv_dup hx hb dX12_image_15 rfl ?_
  refine x_get (own := RX12) (T := TX12) C X 0 rfl rfl 12 (by decide) k_66_16 rfl rfl (v := .int (0 : Int32)) rfl dX12_image_16 ?_
  refine lv_iconst (v := (1 : Int32)) hx hb dX12_image_19 (by decide) ?_
  refine lv_iadd hx hb dX12_image_20 ?_
  refine x_eqi (show (0 : Int32) + (1 : Int32) = (1 : Int32) from by decide +kernel) ?_
  refine x_put (own := RX12) (T := TX12) C X 0 rfl rfl 12 (by decide) k_66_16 rfl rfl rfl (ty := .int) (v := .int (1 : Int32)) (by decide +kernel) rfl rfl (Nat.le_of_ble_eq_true rfl) dX12_image_21 (fun H locs X => ?_)
  have X : Wd D A s [((a 0), .inr (12, ((mF a)).set 12 (.int (1 : Int32)))), ((a 1), .inl (cI, 4, .inl (fun _ => (0 : Int32)))), ((a 2), .inl (cI, 4, .inl (fun _ => (0 : Int32)))), ((a 3), .inl (cI, 4, .inl (fun _ => (0 : Int32)))), ((a 4), .inl (cJ, 4, .inr (.inl (vp_updL (fun _ => (0 : Int64)) (0) ((1 : Int64)))))), ((a 5), .inl (cI, 320, .inl (fun _ => (0 : Int32)))), ((a 6), .inl (cI, 96, .inl (fun _ => (0 : Int32)))), ((a 7), .inl (cI, 160, .inl (wk0))), ((a 8), .inl (cZ, 12800, .inl (fun _ => (0 : Int32)))), ((a 9), .inl (cZ, 3200, .inl (fun _ => (0 : Int32)))), ((a 10), .inl (cI, 12800, .inl (fun _ => (0 : Int32)))), ((a 11), .inl (cI, 51200, .inl (fun _ => (0 : Int32)))), ((a 12), .inl (cI, 3200, .inl (fun _ => (0 : Int32))))] H locs := X
  refine lv_aload_n hx hb dX12_image_24 rfl (lv_at hl 0 rfl) ?_
  refine lv_iconst (v := (0 : Int32)) hx hb dX12_image_25 (by decide) ?_
  refine lv_aload_n hx hb dX12_image_26 rfl (lv_at hl 0 rfl) ?_
  refine x_get (own := RX12) (T := TX12) C X 0 rfl rfl 12 (by decide) k_66_16 rfl rfl (v := .int (1 : Int32)) rfl dX12_image_27 ?_
  refine x_cVv (own := RX12) (wr := []) (As := [.int (0 : Int32), .int (1 : Int32)]) C X hl.1 (cm_copies l D cI cJ cZ cB cO a) [0, 1, 2, 3, 4, 5, 6, 7, 8, 9, 10, 11, 12] [] ⟨rfl, rfl, by decide, by decide, by decide⟩ (qb := 0) rfl rfl k_66_17 k_66_18 k_66_19 k_1_5 k_66_20 (n := 2) (by decide +kernel) ⟨Nat.le_of_ble_eq_true rfl, Nat.le_of_ble_eq_true rfl⟩ rfl rfl (Nat.le_of_ble_eq_true rfl) dX12_image_30 ⟨Nat.le_of_ble_eq_true rfl, Nat.le_of_ble_eq_true rfl⟩ (fun u_1 H locs w_3 X => ?_)
  have X : Wd D A s [((a 0), .inr (12, (mF a).set 12 (.int (1 : Int32))))] H locs := X
  refine W.widen (k := 0) (n := 0) (Nat.le_of_ble_eq_true rfl) (Nat.le_of_ble_eq_true rfl) ?_
  refine lv_aload_n hx hb dX12_image_33 rfl (lv_at hl 0 rfl) ?_
  refine x_get (own := RX12) (T := TX12) C X 0 rfl rfl 12 (by decide) k_66_16 rfl rfl (v := .int (1 : Int32)) rfl dX12_image_34 ?_
  refine lv_iconst (v := (1 : Int32)) hx hb dX12_image_37 (by decide) ?_
  refine lv_isub hx hb dX12_image_38 ?_
  refine x_eqi (show (1 : Int32) - (1 : Int32) = (0 : Int32) from by decide +kernel) ?_
  exact x_iret C X hr hlk (v := (0 : Int32)) (by first | rfl | decide) (()) [] (by decide) rfl (⟨rfl, trivial⟩) (Nat.le_of_ble_eq_true rfl) (Nat.le_of_ble_eq_true rfl) dX12_image_39
set_option maxHeartbeats 4000000 in
set_option maxRecDepth 100000 in
theorem cm_clears (l : Launch) (D : va_G) (cI cJ cZ cB : ClassId) (cO : ClassId) (a : Nat → Nat) :
    CV l D [(cI, .int), (cJ, .long), (cZ, .boolean), (cB, .byte), (cO, .object "LuckLinks$World")] yX12_clears cX12_clears 2 ({ frames := 0, cells := 0, slots := 0, locals := 0 } : Room) [.ref (a 0)] [((a 0), .inr (12, ((mF a)).set 31 (.int (1000 : Int32)))), ((a 14), .inl (cI, 2, .inl (fun _ => (0 : Int32)))), ((a 15), .inl (cI, 2, .inl (fun _ => (0 : Int32)))), ((a 16), .inl (cI, 2, .inl (fun _ => (0 : Int32)))), ((a 17), .inl (cI, 8, .inl (fun _ => (0 : Int32)))), ((a 18), .inl (cI, 8, .inl (fun _ => (0 : Int32)))), ((a 19), .inl (cI, 6, .inl (fun _ => (0 : Int32)))), ((a 20), .inl (cI, 42, .inl (fun _ => (0 : Int32)))), ((a 21), .inl (cI, 42, .inl (fun _ => (0 : Int32)))), ((a 23), .inl (cZ, 80, .inl (fun _ => (0 : Int32))))] (fun (u : Unit) => (True)) (fun (_ : Unit) => [((a 0), .inr (12, ((mF a)).set 31 (.int (1000 : Int32)))), ((a 14), .inl (cI, 2, .inl (fun _ => (0 : Int32)))), ((a 15), .inl (cI, 2, .inl (fun _ => (0 : Int32)))), ((a 16), .inl (cI, 2, .inl (fun _ => (0 : Int32)))), ((a 17), .inl (cI, 8, .inl (fun _ => (0 : Int32)))), ((a 18), .inl (cI, 8, .inl (fun _ => (0 : Int32)))), ((a 19), .inl (cI, 6, .inl (fun _ => (0 : Int32)))), ((a 20), .inl (cI, 42, .inl (fun _ => (0 : Int32)))), ((a 21), .inl (cI, 42, .inl (fun _ => (0 : Int32)))), ((a 23), .inl (cZ, 80, .inl (fun _ => (0 : Int32))))]) := by
  intro sz
  refine body_of (y := yX12_clears) (cc := cX12_clears) (maxL := 2) (ret := none) (rm := ({ frames := 0, cells := 0, slots := 0, locals := 0 } : Room)) (wc := [((a 0), .inr (12, ((mF a)).set 31 (.int (1000 : Int32)))), ((a 14), .inl (cI, 2, .inl (fun _ => (0 : Int32)))), ((a 15), .inl (cI, 2, .inl (fun _ => (0 : Int32)))), ((a 16), .inl (cI, 2, .inl (fun _ => (0 : Int32)))), ((a 17), .inl (cI, 8, .inl (fun _ => (0 : Int32)))), ((a 18), .inl (cI, 8, .inl (fun _ => (0 : Int32)))), ((a 19), .inl (cI, 6, .inl (fun _ => (0 : Int32)))), ((a 20), .inl (cI, 42, .inl (fun _ => (0 : Int32)))), ((a 21), .inl (cI, 42, .inl (fun _ => (0 : Int32)))), ((a 23), .inl (cZ, 80, .inl (fun _ => (0 : Int32))))]) (tys := [(cI, .int), (cJ, .long), (cZ, .boolean), (cB, .byte), (cO, .object "LuckLinks$World")]) (D := D) (sz := sz) (own := RX12) (av := [.ref (a 0)]) (Qc := fun A => va_Qv (fun (u : Unit) => (True)) (fun u t => Aft D A ((fun (_ : Unit) => [((a 0), .inr (12, ((mF a)).set 31 (.int (1000 : Int32)))), ((a 14), .inl (cI, 2, .inl (fun _ => (0 : Int32)))), ((a 15), .inl (cI, 2, .inl (fun _ => (0 : Int32)))), ((a 16), .inl (cI, 2, .inl (fun _ => (0 : Int32)))), ((a 17), .inl (cI, 8, .inl (fun _ => (0 : Int32)))), ((a 18), .inl (cI, 8, .inl (fun _ => (0 : Int32)))), ((a 19), .inl (cI, 6, .inl (fun _ => (0 : Int32)))), ((a 20), .inl (cI, 42, .inl (fun _ => (0 : Int32)))), ((a 21), .inl (cI, 42, .inl (fun _ => (0 : Int32)))), ((a 23), .inl (cZ, 80, .inl (fun _ => (0 : Int32))))]) u) t) A) (by decide) rfl (Nat.le_of_ble_eq_true rfl) (fun p e s m below meth c A ls C hr hlk hin X hl => ?_)
  have hx := C.1
  have hb := C.2.1
  have hown := C.2.2.2.1
  have hts := C.2.2.2.2.1
  have hl : lv_has ls 2 [(0, .ref (a 0))] := hl
  show W p l e _ s m _ below meth c s.heap [] 0 0 (MQ below (va_Qv (fun (u : Unit) => (True)) (fun u t => Aft D A ((fun (_ : Unit) => [((a 0), .inr (12, ((mF a)).set 31 (.int (1000 : Int32)))), ((a 14), .inl (cI, 2, .inl (fun _ => (0 : Int32)))), ((a 15), .inl (cI, 2, .inl (fun _ => (0 : Int32)))), ((a 16), .inl (cI, 2, .inl (fun _ => (0 : Int32)))), ((a 17), .inl (cI, 8, .inl (fun _ => (0 : Int32)))), ((a 18), .inl (cI, 8, .inl (fun _ => (0 : Int32)))), ((a 19), .inl (cI, 6, .inl (fun _ => (0 : Int32)))), ((a 20), .inl (cI, 42, .inl (fun _ => (0 : Int32)))), ((a 21), .inl (cI, 42, .inl (fun _ => (0 : Int32)))), ((a 23), .inl (cZ, 80, .inl (fun _ => (0 : Int32))))]) u) t) A) ([.ref (a 0)] : List Value).toArray s 0 0 A) (F0 m 0 ls [])
  have X : Wd D A s [((a 0), .inr (12, ((mF a)).set 31 (.int (1000 : Int32)))), ((a 14), .inl (cI, 2, .inl (fun _ => (0 : Int32)))), ((a 15), .inl (cI, 2, .inl (fun _ => (0 : Int32)))), ((a 16), .inl (cI, 2, .inl (fun _ => (0 : Int32)))), ((a 17), .inl (cI, 8, .inl (fun _ => (0 : Int32)))), ((a 18), .inl (cI, 8, .inl (fun _ => (0 : Int32)))), ((a 19), .inl (cI, 6, .inl (fun _ => (0 : Int32)))), ((a 20), .inl (cI, 42, .inl (fun _ => (0 : Int32)))), ((a 21), .inl (cI, 42, .inl (fun _ => (0 : Int32)))), ((a 23), .inl (cZ, 80, .inl (fun _ => (0 : Int32))))] s.heap [] := X
  obtain ⟨H, locs, eH, eL⟩ : ∃ H locs, H = s.heap ∧ locs = ([] : List Loc) := ⟨_, _, rfl, rfl⟩
  rw [← eH, ← eL] at X ⊢
  clear eH eL
  refine lv_aload_n hx hb dX12_clears_0 rfl (lv_at hl 0 rfl) ?_
  refine x_get (own := RX12) (T := TX12) C X 0 rfl rfl 14 (by decide) k_10_6 rfl rfl (v := .ref (a 14)) rfl dX12_clears_1 ?_
  refine lv_iconst (v := (1 : Int32)) hx hb dX12_clears_4 (by decide) ?_
  refine lv_iconst (v := (0 : Int32)) hx hb dX12_clears_5 (by decide) ?_
  refine x_iast C X 1 0 rfl rfl (j := 1) rfl (vp_in_nI (n := 1) (by omega) (by omega)) dX12_clears_6 (fun H locs X => ?_)
  have X := x_cng X 1 rfl (arr_eq _ _ (g := fun _ => (0 : Int32)) (fun j h => by first | rfl | (unfold upd; split <;> rfl)))
  have X : Wd D A s [((a 0), .inr (12, ((mF a)).set 31 (.int (1000 : Int32)))), ((a 14), .inl (cI, 2, .inl (fun _ => (0 : Int32)))), ((a 15), .inl (cI, 2, .inl (fun _ => (0 : Int32)))), ((a 16), .inl (cI, 2, .inl (fun _ => (0 : Int32)))), ((a 17), .inl (cI, 8, .inl (fun _ => (0 : Int32)))), ((a 18), .inl (cI, 8, .inl (fun _ => (0 : Int32)))), ((a 19), .inl (cI, 6, .inl (fun _ => (0 : Int32)))), ((a 20), .inl (cI, 42, .inl (fun _ => (0 : Int32)))), ((a 21), .inl (cI, 42, .inl (fun _ => (0 : Int32)))), ((a 23), .inl (cZ, 80, .inl (fun _ => (0 : Int32))))] H locs := X
  refine lv_aload_n hx hb dX12_clears_7 rfl (lv_at hl 0 rfl) ?_
  refine x_get (own := RX12) (T := TX12) C X 0 rfl rfl 15 (by decide) k_10_7 rfl rfl (v := .ref (a 15)) rfl dX12_clears_8 ?_
  refine lv_iconst (v := (1 : Int32)) hx hb dX12_clears_11 (by decide) ?_
  refine lv_iconst (v := (0 : Int32)) hx hb dX12_clears_12 (by decide) ?_
  refine x_iast C X 2 0 rfl rfl (j := 1) rfl (vp_in_nI (n := 1) (by omega) (by omega)) dX12_clears_13 (fun H locs X => ?_)
  have X := x_cng X 2 rfl (arr_eq _ _ (g := fun _ => (0 : Int32)) (fun j h => by first | rfl | (unfold upd; split <;> rfl)))
  have X : Wd D A s [((a 0), .inr (12, ((mF a)).set 31 (.int (1000 : Int32)))), ((a 14), .inl (cI, 2, .inl (fun _ => (0 : Int32)))), ((a 15), .inl (cI, 2, .inl (fun _ => (0 : Int32)))), ((a 16), .inl (cI, 2, .inl (fun _ => (0 : Int32)))), ((a 17), .inl (cI, 8, .inl (fun _ => (0 : Int32)))), ((a 18), .inl (cI, 8, .inl (fun _ => (0 : Int32)))), ((a 19), .inl (cI, 6, .inl (fun _ => (0 : Int32)))), ((a 20), .inl (cI, 42, .inl (fun _ => (0 : Int32)))), ((a 21), .inl (cI, 42, .inl (fun _ => (0 : Int32)))), ((a 23), .inl (cZ, 80, .inl (fun _ => (0 : Int32))))] H locs := X
  refine lv_aload_n hx hb dX12_clears_14 rfl (lv_at hl 0 rfl) ?_
  refine x_get (own := RX12) (T := TX12) C X 0 rfl rfl 16 (by decide) k_10_8 rfl rfl (v := .ref (a 16)) rfl dX12_clears_15 ?_
  refine lv_iconst (v := (1 : Int32)) hx hb dX12_clears_18 (by decide) ?_
  refine lv_iconst (v := (0 : Int32)) hx hb dX12_clears_19 (by decide) ?_
  refine x_iast C X 3 0 rfl rfl (j := 1) rfl (vp_in_nI (n := 1) (by omega) (by omega)) dX12_clears_20 (fun H locs X => ?_)
  have X := x_cng X 3 rfl (arr_eq _ _ (g := fun _ => (0 : Int32)) (fun j h => by first | rfl | (unfold upd; split <;> rfl)))
  have X : Wd D A s [((a 0), .inr (12, ((mF a)).set 31 (.int (1000 : Int32)))), ((a 14), .inl (cI, 2, .inl (fun _ => (0 : Int32)))), ((a 15), .inl (cI, 2, .inl (fun _ => (0 : Int32)))), ((a 16), .inl (cI, 2, .inl (fun _ => (0 : Int32)))), ((a 17), .inl (cI, 8, .inl (fun _ => (0 : Int32)))), ((a 18), .inl (cI, 8, .inl (fun _ => (0 : Int32)))), ((a 19), .inl (cI, 6, .inl (fun _ => (0 : Int32)))), ((a 20), .inl (cI, 42, .inl (fun _ => (0 : Int32)))), ((a 21), .inl (cI, 42, .inl (fun _ => (0 : Int32)))), ((a 23), .inl (cZ, 80, .inl (fun _ => (0 : Int32))))] H locs := X
  refine lv_iconst (v := (0 : Int32)) hx hb dX12_clears_21 (by decide) ?_
  refine lv_istore_n (lv' := [(1, .int (0 : Int32)), (0, .ref (a 0))]) hx hb dX12_clears_22 rfl hl (by decide) rfl (fun ls hl => ?_)
  have L23 : ∀ (n : Nat) (i : Nat) (H : Heap) (locs : List Loc) (ls : Array Slot), (h1 : i ≤ 4) → 4 < i + n → Wd D A s [((a 0), .inr (12, ((mF a)).set 31 (.int (1000 : Int32)))), ((a 14), .inl (cI, 2, .inl (fun _ => (0 : Int32)))), ((a 15), .inl (cI, 2, .inl (fun _ => (0 : Int32)))), ((a 16), .inl (cI, 2, .inl (fun _ => (0 : Int32)))), ((a 17), .inl (cI, 8, .inl (fun _ => (0 : Int32)))), ((a 18), .inl (cI, 8, .inl (fun _ => (0 : Int32)))), ((a 19), .inl (cI, 6, .inl (fun _ => (0 : Int32)))), ((a 20), .inl (cI, 42, .inl (fun _ => (0 : Int32)))), ((a 21), .inl (cI, 42, .inl (fun _ => (0 : Int32)))), ((a 23), .inl (cZ, 80, .inl (fun _ => (0 : Int32))))] H locs → lv_has ls 2 [(1, .int (nI (i))), (0, .ref (a 0))] → W p l e ({ frames := 0, cells := 0, slots := 0, locals := 0 } : Room) s m ([.ref (a 0)] : List Value).toArray below meth c H locs 0 0 (MQ below (va_Qv (fun (u : Unit) => (True)) (fun u t => Aft D A ((fun (_ : Unit) => [((a 0), .inr (12, ((mF a)).set 31 (.int (1000 : Int32)))), ((a 14), .inl (cI, 2, .inl (fun _ => (0 : Int32)))), ((a 15), .inl (cI, 2, .inl (fun _ => (0 : Int32)))), ((a 16), .inl (cI, 2, .inl (fun _ => (0 : Int32)))), ((a 17), .inl (cI, 8, .inl (fun _ => (0 : Int32)))), ((a 18), .inl (cI, 8, .inl (fun _ => (0 : Int32)))), ((a 19), .inl (cI, 6, .inl (fun _ => (0 : Int32)))), ((a 20), .inl (cI, 42, .inl (fun _ => (0 : Int32)))), ((a 21), .inl (cI, 42, .inl (fun _ => (0 : Int32)))), ((a 23), .inl (cZ, 80, .inl (fun _ => (0 : Int32))))]) u) t) A) ([.ref (a 0)] : List Value).toArray s 0 0 A) (F0 m 23 ls []) := by
    intro n
    induction n with
    | zero => intro i H locs ls h1 hn; exact absurd hn (by omega)
    | succ n ih =>
      intro i H locs ls h1 hn X hl
      have ih23 := ih
      refine lv_iload_n hx hb dX12_clears_23 rfl (lv_at hl 0 rfl) ?_
      refine lv_iconst (v := (4 : Int32)) hx hb dX12_clears_24 (by decide) ?_
      refine lv_icmp_ge (tgt := 52) hx hb dX12_clears_25 (by decide) (fun c_1 => ?_) (fun c_1 => ?_)
      · have fc_1 : (4 : Int) ≤ ((i : Nat) : Int) := (by have h9 := i_le c_1; simp only [nI_toInt (n := i) (by omega)] at h9; exact h9)
        refine lv_iconst (v := (3 : Int32)) hx hb dX12_clears_52 (by decide) ?_
        refine lv_istore_n (lv' := [(1, .int (3 : Int32)), (0, .ref (a 0))]) hx hb dX12_clears_53 rfl hl (by decide) rfl (fun ls hl => ?_)
        have L54 : ∀ (n : Nat) (i : Nat) (H : Heap) (locs : List Loc) (ls : Array Slot), (h1 : i ≤ 6) → (h0 : 3 ≤ i) → 6 < i + n → Wd D A s [((a 0), .inr (12, ((mF a)).set 31 (.int (1000 : Int32)))), ((a 14), .inl (cI, 2, .inl (fun _ => (0 : Int32)))), ((a 15), .inl (cI, 2, .inl (fun _ => (0 : Int32)))), ((a 16), .inl (cI, 2, .inl (fun _ => (0 : Int32)))), ((a 17), .inl (cI, 8, .inl (fun _ => (0 : Int32)))), ((a 18), .inl (cI, 8, .inl (fun _ => (0 : Int32)))), ((a 19), .inl (cI, 6, .inl (fun _ => (0 : Int32)))), ((a 20), .inl (cI, 42, .inl (fun _ => (0 : Int32)))), ((a 21), .inl (cI, 42, .inl (fun _ => (0 : Int32)))), ((a 23), .inl (cZ, 80, .inl (fun _ => (0 : Int32))))] H locs → lv_has ls 2 [(1, .int (nI (i))), (0, .ref (a 0))] → W p l e ({ frames := 0, cells := 0, slots := 0, locals := 0 } : Room) s m ([.ref (a 0)] : List Value).toArray below meth c H locs 0 0 (MQ below (va_Qv (fun (u : Unit) => (True)) (fun u t => Aft D A ((fun (_ : Unit) => [((a 0), .inr (12, ((mF a)).set 31 (.int (1000 : Int32)))), ((a 14), .inl (cI, 2, .inl (fun _ => (0 : Int32)))), ((a 15), .inl (cI, 2, .inl (fun _ => (0 : Int32)))), ((a 16), .inl (cI, 2, .inl (fun _ => (0 : Int32)))), ((a 17), .inl (cI, 8, .inl (fun _ => (0 : Int32)))), ((a 18), .inl (cI, 8, .inl (fun _ => (0 : Int32)))), ((a 19), .inl (cI, 6, .inl (fun _ => (0 : Int32)))), ((a 20), .inl (cI, 42, .inl (fun _ => (0 : Int32)))), ((a 21), .inl (cI, 42, .inl (fun _ => (0 : Int32)))), ((a 23), .inl (cZ, 80, .inl (fun _ => (0 : Int32))))]) u) t) A) ([.ref (a 0)] : List Value).toArray s 0 0 A) (F0 m 54 ls []) := by
          intro n
          induction n with
          | zero => intro i H locs ls h1 h0 hn; exact absurd hn (by omega)
          | succ n ih =>
            intro i H locs ls h1 h0 hn X hl
            have ih54 := ih
            refine lv_iload_n hx hb dX12_clears_54 rfl (lv_at hl 0 rfl) ?_
            refine lv_bipush (v := (6 : Int32)) hx hb dX12_clears_55 (by decide) ?_
            refine lv_icmp_ge (tgt := 73) hx hb dX12_clears_57 (by decide) (fun c_2 => ?_) (fun c_2 => ?_)
            · have fc_2 : (6 : Int) ≤ ((i : Nat) : Int) := (by have h9 := i_le c_2; simp only [nI_toInt (n := i) (by omega)] at h9; exact h9)
              refine lv_bipush (v := (21 : Int32)) hx hb dX12_clears_73 (by decide) ?_
              refine lv_istore_n (lv' := [(1, .int (21 : Int32)), (0, .ref (a 0))]) hx hb dX12_clears_75 rfl hl (by decide) rfl (fun ls hl => ?_)
              have L76 : ∀ (n : Nat) (i : Nat) (H : Heap) (locs : List Loc) (ls : Array Slot), (h1 : i ≤ 42) → (h0 : 21 ≤ i) → 42 < i + n → Wd D A s [((a 0), .inr (12, ((mF a)).set 31 (.int (1000 : Int32)))), ((a 14), .inl (cI, 2, .inl (fun _ => (0 : Int32)))), ((a 15), .inl (cI, 2, .inl (fun _ => (0 : Int32)))), ((a 16), .inl (cI, 2, .inl (fun _ => (0 : Int32)))), ((a 17), .inl (cI, 8, .inl (fun _ => (0 : Int32)))), ((a 18), .inl (cI, 8, .inl (fun _ => (0 : Int32)))), ((a 19), .inl (cI, 6, .inl (fun _ => (0 : Int32)))), ((a 20), .inl (cI, 42, .inl (fun _ => (0 : Int32)))), ((a 21), .inl (cI, 42, .inl (fun _ => (0 : Int32)))), ((a 23), .inl (cZ, 80, .inl (fun _ => (0 : Int32))))] H locs → lv_has ls 2 [(1, .int (nI (i))), (0, .ref (a 0))] → W p l e ({ frames := 0, cells := 0, slots := 0, locals := 0 } : Room) s m ([.ref (a 0)] : List Value).toArray below meth c H locs 0 0 (MQ below (va_Qv (fun (u : Unit) => (True)) (fun u t => Aft D A ((fun (_ : Unit) => [((a 0), .inr (12, ((mF a)).set 31 (.int (1000 : Int32)))), ((a 14), .inl (cI, 2, .inl (fun _ => (0 : Int32)))), ((a 15), .inl (cI, 2, .inl (fun _ => (0 : Int32)))), ((a 16), .inl (cI, 2, .inl (fun _ => (0 : Int32)))), ((a 17), .inl (cI, 8, .inl (fun _ => (0 : Int32)))), ((a 18), .inl (cI, 8, .inl (fun _ => (0 : Int32)))), ((a 19), .inl (cI, 6, .inl (fun _ => (0 : Int32)))), ((a 20), .inl (cI, 42, .inl (fun _ => (0 : Int32)))), ((a 21), .inl (cI, 42, .inl (fun _ => (0 : Int32)))), ((a 23), .inl (cZ, 80, .inl (fun _ => (0 : Int32))))]) u) t) A) ([.ref (a 0)] : List Value).toArray s 0 0 A) (F0 m 76 ls []) := by
                intro n
                induction n with
                | zero => intro i H locs ls h1 h0 hn; exact absurd hn (by omega)
                | succ n ih =>
                  intro i H locs ls h1 h0 hn X hl
                  have ih76 := ih
                  refine lv_iload_n hx hb dX12_clears_76 rfl (lv_at hl 0 rfl) ?_
                  refine lv_bipush (v := (42 : Int32)) hx hb dX12_clears_77 (by decide) ?_
                  refine lv_icmp_ge (tgt := 102) hx hb dX12_clears_79 (by decide) (fun c_3 => ?_) (fun c_3 => ?_)
                  · have fc_3 : (42 : Int) ≤ ((i : Nat) : Int) := (by have h9 := i_le c_3; simp only [nI_toInt (n := i) (by omega)] at h9; exact h9)
                    refine lv_bipush (v := (40 : Int32)) hx hb dX12_clears_102 (by decide) ?_
                    refine lv_istore_n (lv' := [(1, .int (40 : Int32)), (0, .ref (a 0))]) hx hb dX12_clears_104 rfl hl (by decide) rfl (fun ls hl => ?_)
                    have L105 : ∀ (n : Nat) (i : Nat) (H : Heap) (locs : List Loc) (ls : Array Slot), (h1 : i ≤ 80) → (h0 : 40 ≤ i) → 80 < i + n → Wd D A s [((a 0), .inr (12, ((mF a)).set 31 (.int (1000 : Int32)))), ((a 14), .inl (cI, 2, .inl (fun _ => (0 : Int32)))), ((a 15), .inl (cI, 2, .inl (fun _ => (0 : Int32)))), ((a 16), .inl (cI, 2, .inl (fun _ => (0 : Int32)))), ((a 17), .inl (cI, 8, .inl (fun _ => (0 : Int32)))), ((a 18), .inl (cI, 8, .inl (fun _ => (0 : Int32)))), ((a 19), .inl (cI, 6, .inl (fun _ => (0 : Int32)))), ((a 20), .inl (cI, 42, .inl (fun _ => (0 : Int32)))), ((a 21), .inl (cI, 42, .inl (fun _ => (0 : Int32)))), ((a 23), .inl (cZ, 80, .inl (fun _ => (0 : Int32))))] H locs → lv_has ls 2 [(1, .int (nI (i))), (0, .ref (a 0))] → W p l e ({ frames := 0, cells := 0, slots := 0, locals := 0 } : Room) s m ([.ref (a 0)] : List Value).toArray below meth c H locs 0 0 (MQ below (va_Qv (fun (u : Unit) => (True)) (fun u t => Aft D A ((fun (_ : Unit) => [((a 0), .inr (12, ((mF a)).set 31 (.int (1000 : Int32)))), ((a 14), .inl (cI, 2, .inl (fun _ => (0 : Int32)))), ((a 15), .inl (cI, 2, .inl (fun _ => (0 : Int32)))), ((a 16), .inl (cI, 2, .inl (fun _ => (0 : Int32)))), ((a 17), .inl (cI, 8, .inl (fun _ => (0 : Int32)))), ((a 18), .inl (cI, 8, .inl (fun _ => (0 : Int32)))), ((a 19), .inl (cI, 6, .inl (fun _ => (0 : Int32)))), ((a 20), .inl (cI, 42, .inl (fun _ => (0 : Int32)))), ((a 21), .inl (cI, 42, .inl (fun _ => (0 : Int32)))), ((a 23), .inl (cZ, 80, .inl (fun _ => (0 : Int32))))]) u) t) A) ([.ref (a 0)] : List Value).toArray s 0 0 A) (F0 m 105 ls []) := by
                      intro n
                      induction n with
                      | zero => intro i H locs ls h1 h0 hn; exact absurd hn (by omega)
                      | succ n ih =>
                        intro i H locs ls h1 h0 hn X hl
                        have ih105 := ih
                        refine lv_iload_n hx hb dX12_clears_105 rfl (lv_at hl 0 rfl) ?_
                        refine lv_bipush (v := (80 : Int32)) hx hb dX12_clears_106 (by decide) ?_
                        refine lv_icmp_ge (tgt := 124) hx hb dX12_clears_108 (by decide) (fun c_4 => ?_) (fun c_4 => ?_)
                        · have fc_4 : (80 : Int) ≤ ((i : Nat) : Int) := (by have h9 := i_le c_4; simp only [nI_toInt (n := i) (by omega)] at h9; exact h9)
                          exact x_vret C X hr hlk (()) [0, 1, 2, 3, 4, 5, 6, 7, 8, 9] (by decide) rfl (trivial) (Nat.le_of_ble_eq_true rfl) (Nat.le_of_ble_eq_true rfl) dX12_clears_124
                        · have fc_4 : ((i : Nat) : Int) < (80 : Int) := (by have h9 := i_nle c_4; simp only [nI_toInt (n := i) (by omega)] at h9; exact h9)
                          refine lv_aload_n hx hb dX12_clears_111 rfl (lv_at hl 1 rfl) ?_
                          refine x_get (own := RX12) (T := TX12) C X 0 rfl rfl 23 (by decide) k_10_15 rfl rfl (v := .ref (a 23)) rfl dX12_clears_112 ?_
                          refine lv_iload_n hx hb dX12_clears_115 rfl (lv_at hl 0 rfl) ?_
                          refine lv_iconst (v := (0 : Int32)) hx hb dX12_clears_116 (by decide) ?_
                          refine x_zast C X 9 2 rfl rfl (j := i) (nI_clamp (by omega)) (vp_in_nI (by omega) (by omega)) dX12_clears_117 (fun H locs X => ?_)
                          have X := x_cng X 9 rfl (arr_eq _ _ (g := fun _ => (0 : Int32)) (fun j h => by first | rfl | (unfold upd; split <;> rfl)))
                          have X : Wd D A s [((a 0), .inr (12, ((mF a)).set 31 (.int (1000 : Int32)))), ((a 14), .inl (cI, 2, .inl (fun _ => (0 : Int32)))), ((a 15), .inl (cI, 2, .inl (fun _ => (0 : Int32)))), ((a 16), .inl (cI, 2, .inl (fun _ => (0 : Int32)))), ((a 17), .inl (cI, 8, .inl (fun _ => (0 : Int32)))), ((a 18), .inl (cI, 8, .inl (fun _ => (0 : Int32)))), ((a 19), .inl (cI, 6, .inl (fun _ => (0 : Int32)))), ((a 20), .inl (cI, 42, .inl (fun _ => (0 : Int32)))), ((a 21), .inl (cI, 42, .inl (fun _ => (0 : Int32)))), ((a 23), .inl (cZ, 80, .inl (fun _ => (0 : Int32))))] H locs := X
                          refine lv_iinc (v := (nI (i + 1))) (lv' := [(1, .int (nI (i + 1))), (0, .ref (a 0))]) hx hb dX12_clears_118 hl (k := 0) rfl (nI_add _ 1) (by decide) rfl (fun ls hl => ?_)
                          refine lv_goto (tgt := 105) hx hb dX12_clears_121 (by decide) ?_
                          exact ih105  (i + 1) H locs ls (by omega) (by omega) (by omega) (x_sub X [0, 1, 2, 3, 4, 5, 6, 7, 8, 9] (by decide) rfl) (lv_sub hl [0, 1] rfl)
                    exact L105 (80 + 1) (40) H locs ls (by omega) (by omega) (by omega) (x_sub X [0, 1, 2, 3, 4, 5, 6, 7, 8, 9] (by decide) rfl) (lv_sub hl [0, 1] rfl)
                  · have fc_3 : ((i : Nat) : Int) < (42 : Int) := (by have h9 := i_nle c_3; simp only [nI_toInt (n := i) (by omega)] at h9; exact h9)
                    refine lv_aload_n hx hb dX12_clears_82 rfl (lv_at hl 1 rfl) ?_
                    refine x_get (own := RX12) (T := TX12) C X 0 rfl rfl 20 (by decide) k_10_12 rfl rfl (v := .ref (a 20)) rfl dX12_clears_83 ?_
                    refine lv_iload_n hx hb dX12_clears_86 rfl (lv_at hl 0 rfl) ?_
                    refine lv_iconst (v := (0 : Int32)) hx hb dX12_clears_87 (by decide) ?_
                    refine x_iast C X 7 0 rfl rfl (j := i) (nI_clamp (by omega)) (vp_in_nI (by omega) (by omega)) dX12_clears_88 (fun H locs X => ?_)
                    have X := x_cng X 7 rfl (arr_eq _ _ (g := fun _ => (0 : Int32)) (fun j h => by first | rfl | (unfold upd; split <;> rfl)))
                    have X : Wd D A s [((a 0), .inr (12, ((mF a)).set 31 (.int (1000 : Int32)))), ((a 14), .inl (cI, 2, .inl (fun _ => (0 : Int32)))), ((a 15), .inl (cI, 2, .inl (fun _ => (0 : Int32)))), ((a 16), .inl (cI, 2, .inl (fun _ => (0 : Int32)))), ((a 17), .inl (cI, 8, .inl (fun _ => (0 : Int32)))), ((a 18), .inl (cI, 8, .inl (fun _ => (0 : Int32)))), ((a 19), .inl (cI, 6, .inl (fun _ => (0 : Int32)))), ((a 20), .inl (cI, 42, .inl (fun _ => (0 : Int32)))), ((a 21), .inl (cI, 42, .inl (fun _ => (0 : Int32)))), ((a 23), .inl (cZ, 80, .inl (fun _ => (0 : Int32))))] H locs := X
                    refine lv_aload_n hx hb dX12_clears_89 rfl (lv_at hl 1 rfl) ?_
                    refine x_get (own := RX12) (T := TX12) C X 0 rfl rfl 21 (by decide) k_10_13 rfl rfl (v := .ref (a 21)) rfl dX12_clears_90 ?_
                    refine lv_iload_n hx hb dX12_clears_93 rfl (lv_at hl 0 rfl) ?_
                    refine lv_iconst (v := (0 : Int32)) hx hb dX12_clears_94 (by decide) ?_
                    refine x_iast C X 8 0 rfl rfl (j := i) (nI_clamp (by omega)) (vp_in_nI (by omega) (by omega)) dX12_clears_95 (fun H locs X => ?_)
                    have X := x_cng X 8 rfl (arr_eq _ _ (g := fun _ => (0 : Int32)) (fun j h => by first | rfl | (unfold upd; split <;> rfl)))
                    have X : Wd D A s [((a 0), .inr (12, ((mF a)).set 31 (.int (1000 : Int32)))), ((a 14), .inl (cI, 2, .inl (fun _ => (0 : Int32)))), ((a 15), .inl (cI, 2, .inl (fun _ => (0 : Int32)))), ((a 16), .inl (cI, 2, .inl (fun _ => (0 : Int32)))), ((a 17), .inl (cI, 8, .inl (fun _ => (0 : Int32)))), ((a 18), .inl (cI, 8, .inl (fun _ => (0 : Int32)))), ((a 19), .inl (cI, 6, .inl (fun _ => (0 : Int32)))), ((a 20), .inl (cI, 42, .inl (fun _ => (0 : Int32)))), ((a 21), .inl (cI, 42, .inl (fun _ => (0 : Int32)))), ((a 23), .inl (cZ, 80, .inl (fun _ => (0 : Int32))))] H locs := X
                    refine lv_iinc (v := (nI (i + 1))) (lv' := [(1, .int (nI (i + 1))), (0, .ref (a 0))]) hx hb dX12_clears_96 hl (k := 0) rfl (nI_add _ 1) (by decide) rfl (fun ls hl => ?_)
                    refine lv_goto (tgt := 76) hx hb dX12_clears_99 (by decide) ?_
                    exact ih76  (i + 1) H locs ls (by omega) (by omega) (by omega) (x_sub X [0, 1, 2, 3, 4, 5, 6, 7, 8, 9] (by decide) rfl) (lv_sub hl [0, 1] rfl)
              exact L76 (42 + 1) (21) H locs ls (by omega) (by omega) (by omega) (x_sub X [0, 1, 2, 3, 4, 5, 6, 7, 8, 9] (by decide) rfl) (lv_sub hl [0, 1] rfl)
            · have fc_2 : ((i : Nat) : Int) < (6 : Int) := (by have h9 := i_nle c_2; simp only [nI_toInt (n := i) (by omega)] at h9; exact h9)
              refine lv_aload_n hx hb dX12_clears_60 rfl (lv_at hl 1 rfl) ?_
              refine x_get (own := RX12) (T := TX12) C X 0 rfl rfl 19 (by decide) k_10_11 rfl rfl (v := .ref (a 19)) rfl dX12_clears_61 ?_
              refine lv_iload_n hx hb dX12_clears_64 rfl (lv_at hl 0 rfl) ?_
              refine lv_iconst (v := (0 : Int32)) hx hb dX12_clears_65 (by decide) ?_
              refine x_iast C X 6 0 rfl rfl (j := i) (nI_clamp (by omega)) (vp_in_nI (by omega) (by omega)) dX12_clears_66 (fun H locs X => ?_)
              have X := x_cng X 6 rfl (arr_eq _ _ (g := fun _ => (0 : Int32)) (fun j h => by first | rfl | (unfold upd; split <;> rfl)))
              have X : Wd D A s [((a 0), .inr (12, ((mF a)).set 31 (.int (1000 : Int32)))), ((a 14), .inl (cI, 2, .inl (fun _ => (0 : Int32)))), ((a 15), .inl (cI, 2, .inl (fun _ => (0 : Int32)))), ((a 16), .inl (cI, 2, .inl (fun _ => (0 : Int32)))), ((a 17), .inl (cI, 8, .inl (fun _ => (0 : Int32)))), ((a 18), .inl (cI, 8, .inl (fun _ => (0 : Int32)))), ((a 19), .inl (cI, 6, .inl (fun _ => (0 : Int32)))), ((a 20), .inl (cI, 42, .inl (fun _ => (0 : Int32)))), ((a 21), .inl (cI, 42, .inl (fun _ => (0 : Int32)))), ((a 23), .inl (cZ, 80, .inl (fun _ => (0 : Int32))))] H locs := X
              refine lv_iinc (v := (nI (i + 1))) (lv' := [(1, .int (nI (i + 1))), (0, .ref (a 0))]) hx hb dX12_clears_67 hl (k := 0) rfl (nI_add _ 1) (by decide) rfl (fun ls hl => ?_)
              refine lv_goto (tgt := 54) hx hb dX12_clears_70 (by decide) ?_
              exact ih54  (i + 1) H locs ls (by omega) (by omega) (by omega) (x_sub X [0, 1, 2, 3, 4, 5, 6, 7, 8, 9] (by decide) rfl) (lv_sub hl [0, 1] rfl)
        exact L54 (6 + 1) (3) H locs ls (by omega) (by omega) (by omega) (x_sub X [0, 1, 2, 3, 4, 5, 6, 7, 8, 9] (by decide) rfl) (lv_sub hl [0, 1] rfl)
      · have fc_1 : ((i : Nat) : Int) < (4 : Int) := (by have h9 := i_nle c_1; simp only [nI_toInt (n := i) (by omega)] at h9; exact h9)
        refine lv_aload_n hx hb dX12_clears_28 rfl (lv_at hl 1 rfl) ?_
        refine x_get (own := RX12) (T := TX12) C X 0 rfl rfl 17 (by decide) k_10_9 rfl rfl (v := .ref (a 17)) rfl dX12_clears_29 ?_
        refine lv_iconst (v := (4 : Int32)) hx hb dX12_clears_32 (by decide) ?_
        refine lv_iload_n hx hb dX12_clears_33 rfl (lv_at hl 0 rfl) ?_
        refine lv_iadd hx hb dX12_clears_34 ?_
        refine x_eqi (show (4 : Int32) + (nI (i)) = (nI (4 + i)) from nI_add 4 i) ?_
        refine lv_iconst (v := (0 : Int32)) hx hb dX12_clears_35 (by decide) ?_
        refine x_iast C X 4 0 rfl rfl (j := 4 + i) (nI_clamp (by omega)) (vp_in_nI (by omega) (by omega)) dX12_clears_36 (fun H locs X => ?_)
        have X := x_cng X 4 rfl (arr_eq _ _ (g := fun _ => (0 : Int32)) (fun j h => by first | rfl | (unfold upd; split <;> rfl)))
        have X : Wd D A s [((a 0), .inr (12, ((mF a)).set 31 (.int (1000 : Int32)))), ((a 14), .inl (cI, 2, .inl (fun _ => (0 : Int32)))), ((a 15), .inl (cI, 2, .inl (fun _ => (0 : Int32)))), ((a 16), .inl (cI, 2, .inl (fun _ => (0 : Int32)))), ((a 17), .inl (cI, 8, .inl (fun _ => (0 : Int32)))), ((a 18), .inl (cI, 8, .inl (fun _ => (0 : Int32)))), ((a 19), .inl (cI, 6, .inl (fun _ => (0 : Int32)))), ((a 20), .inl (cI, 42, .inl (fun _ => (0 : Int32)))), ((a 21), .inl (cI, 42, .inl (fun _ => (0 : Int32)))), ((a 23), .inl (cZ, 80, .inl (fun _ => (0 : Int32))))] H locs := X
        refine lv_aload_n hx hb dX12_clears_37 rfl (lv_at hl 1 rfl) ?_
        refine x_get (own := RX12) (T := TX12) C X 0 rfl rfl 18 (by decide) k_10_10 rfl rfl (v := .ref (a 18)) rfl dX12_clears_38 ?_
        refine lv_iconst (v := (4 : Int32)) hx hb dX12_clears_41 (by decide) ?_
        refine lv_iload_n hx hb dX12_clears_42 rfl (lv_at hl 0 rfl) ?_
        refine lv_iadd hx hb dX12_clears_43 ?_
        refine x_eqi (show (4 : Int32) + (nI (i)) = (nI (4 + i)) from nI_add 4 i) ?_
        refine lv_iconst (v := (0 : Int32)) hx hb dX12_clears_44 (by decide) ?_
        refine x_iast C X 5 0 rfl rfl (j := 4 + i) (nI_clamp (by omega)) (vp_in_nI (by omega) (by omega)) dX12_clears_45 (fun H locs X => ?_)
        have X := x_cng X 5 rfl (arr_eq _ _ (g := fun _ => (0 : Int32)) (fun j h => by first | rfl | (unfold upd; split <;> rfl)))
        have X : Wd D A s [((a 0), .inr (12, ((mF a)).set 31 (.int (1000 : Int32)))), ((a 14), .inl (cI, 2, .inl (fun _ => (0 : Int32)))), ((a 15), .inl (cI, 2, .inl (fun _ => (0 : Int32)))), ((a 16), .inl (cI, 2, .inl (fun _ => (0 : Int32)))), ((a 17), .inl (cI, 8, .inl (fun _ => (0 : Int32)))), ((a 18), .inl (cI, 8, .inl (fun _ => (0 : Int32)))), ((a 19), .inl (cI, 6, .inl (fun _ => (0 : Int32)))), ((a 20), .inl (cI, 42, .inl (fun _ => (0 : Int32)))), ((a 21), .inl (cI, 42, .inl (fun _ => (0 : Int32)))), ((a 23), .inl (cZ, 80, .inl (fun _ => (0 : Int32))))] H locs := X
        refine lv_iinc (v := (nI (i + 1))) (lv' := [(1, .int (nI (i + 1))), (0, .ref (a 0))]) hx hb dX12_clears_46 hl (k := 0) rfl (nI_add _ 1) (by decide) rfl (fun ls hl => ?_)
        refine lv_goto (tgt := 23) hx hb dX12_clears_49 (by decide) ?_
        exact ih23  (i + 1) H locs ls (by omega) (by omega) (x_sub X [0, 1, 2, 3, 4, 5, 6, 7, 8, 9] (by decide) rfl) (lv_sub hl [0, 1] rfl)
  exact L23 (4 + 1) (0) H locs ls (by omega) (by omega) (x_sub X [0, 1, 2, 3, 4, 5, 6, 7, 8, 9] (by decide) rfl) (lv_sub hl [0, 1] rfl)
set_option maxHeartbeats 4000000 in
set_option maxRecDepth 100000 in
theorem cm_here (l : Launch) (D : va_G) (cI cJ cZ cB : ClassId) (cO : ClassId) (a : Nat → Nat) :
    CI l D [(cI, .int), (cJ, .long), (cZ, .boolean), (cB, .byte), (cO, .object "LuckLinks$World")] yX12_here cX12_here 1 (some .int) ({ frames := 0, cells := 0, slots := 0, locals := 0 } : Room) [.ref (a 0)] [((a 0), .inr (12, ((mF a)).set 31 (.int (1000 : Int32))))] (fun (r : Int32) (u : Unit) => (r = (-1 : Int32) ∧ True)) (fun (_ : Unit) => [((a 0), .inr (12, ((mF a)).set 31 (.int (1000 : Int32))))]) := by
  intro sz
  refine body_of (y := yX12_here) (cc := cX12_here) (maxL := 1) (ret := (some .int)) (rm := ({ frames := 0, cells := 0, slots := 0, locals := 0 } : Room)) (wc := [((a 0), .inr (12, ((mF a)).set 31 (.int (1000 : Int32))))]) (tys := [(cI, .int), (cJ, .long), (cZ, .boolean), (cB, .byte), (cO, .object "LuckLinks$World")]) (D := D) (sz := sz) (own := RX12) (av := [.ref (a 0)]) (Qc := fun A => va_Qi (fun (r : Int32) (u : Unit) => (r = (-1 : Int32) ∧ True)) (fun u t => Aft D A ((fun (_ : Unit) => [((a 0), .inr (12, ((mF a)).set 31 (.int (1000 : Int32))))]) u) t) A) (by decide) rfl (Nat.le_of_ble_eq_true rfl) (fun p e s m below meth c A ls C hr hlk hin X hl => ?_)
  have hx := C.1
  have hb := C.2.1
  have hown := C.2.2.2.1
  have hts := C.2.2.2.2.1
  have hl : lv_has ls 1 [(0, .ref (a 0))] := hl
  show W p l e _ s m _ below meth c s.heap [] 0 0 (MQ below (va_Qi (fun (r : Int32) (u : Unit) => (r = (-1 : Int32) ∧ True)) (fun u t => Aft D A ((fun (_ : Unit) => [((a 0), .inr (12, ((mF a)).set 31 (.int (1000 : Int32))))]) u) t) A) ([.ref (a 0)] : List Value).toArray s 0 0 A) (F0 m 0 ls [])
  have X : Wd D A s [((a 0), .inr (12, ((mF a)).set 31 (.int (1000 : Int32))))] s.heap [] := X
  obtain ⟨H, locs, eH, eL⟩ : ∃ H locs, H = s.heap ∧ locs = ([] : List Loc) := ⟨_, _, rfl, rfl⟩
  rw [← eH, ← eL] at X ⊢
  clear eH eL
  refine lv_aload_n hx hb dX12_here_0 rfl (lv_at hl 0 rfl) ?_
  refine x_get (own := RX12) (T := TX12) C X 0 rfl rfl 40 (by decide) k_25_18 rfl rfl (v := .int (0 : Int32)) rfl dX12_here_1 ?_
  refine lv_aload_n hx hb dX12_here_4 rfl (lv_at hl 0 rfl) ?_
  refine x_get (own := RX12) (T := TX12) C X 0 rfl rfl 39 (by decide) k_25_17 rfl rfl (v := .int (0 : Int32)) rfl dX12_here_5 ?_
  refine lv_icmp_ge (tgt := 27) hx hb dX12_here_8 (by decide) (fun _ => ?_) (fun c0 => absurd (by decide) c0)
  refine lv_iconst (v := (-1 : Int32)) hx hb dX12_here_27 (by decide) ?_
  exact x_iret C X hr hlk (v := (-1 : Int32)) (by first | rfl | decide) (()) [0] (by decide) rfl (⟨rfl, trivial⟩) (Nat.le_of_ble_eq_true rfl) (Nat.le_of_ble_eq_true rfl) dX12_here_28
set_option maxHeartbeats 4000000 in
set_option maxRecDepth 100000 in
theorem cm_here2 (l : Launch) (D : va_G) (cI cJ cZ cB : ClassId) (cO : ClassId) (a : Nat → Nat) :
    CI l D [(cI, .int), (cJ, .long), (cZ, .boolean), (cB, .byte), (cO, .object "LuckLinks$World")] yX12_here cX12_here 1 (some .int) ({ frames := 0, cells := 0, slots := 0, locals := 0 } : Room) [.ref (a 0)] [((a 0), .inr (12, (((mF a)).set 31 (.int (1000 : Int32))).set 44 (.long (-1 : Int64))))] (fun (r : Int32) (u : Unit) => (r = (-1 : Int32) ∧ True)) (fun (_ : Unit) => [((a 0), .inr (12, (((mF a)).set 31 (.int (1000 : Int32))).set 44 (.long (-1 : Int64))))]) := by
  intro sz
  refine body_of (y := yX12_here) (cc := cX12_here) (maxL := 1) (ret := (some .int)) (rm := ({ frames := 0, cells := 0, slots := 0, locals := 0 } : Room)) (wc := [((a 0), .inr (12, (((mF a)).set 31 (.int (1000 : Int32))).set 44 (.long (-1 : Int64))))]) (tys := [(cI, .int), (cJ, .long), (cZ, .boolean), (cB, .byte), (cO, .object "LuckLinks$World")]) (D := D) (sz := sz) (own := RX12) (av := [.ref (a 0)]) (Qc := fun A => va_Qi (fun (r : Int32) (u : Unit) => (r = (-1 : Int32) ∧ True)) (fun u t => Aft D A ((fun (_ : Unit) => [((a 0), .inr (12, (((mF a)).set 31 (.int (1000 : Int32))).set 44 (.long (-1 : Int64))))]) u) t) A) (by decide) rfl (Nat.le_of_ble_eq_true rfl) (fun p e s m below meth c A ls C hr hlk hin X hl => ?_)
  have hx := C.1
  have hb := C.2.1
  have hown := C.2.2.2.1
  have hts := C.2.2.2.2.1
  have hl : lv_has ls 1 [(0, .ref (a 0))] := hl
  show W p l e _ s m _ below meth c s.heap [] 0 0 (MQ below (va_Qi (fun (r : Int32) (u : Unit) => (r = (-1 : Int32) ∧ True)) (fun u t => Aft D A ((fun (_ : Unit) => [((a 0), .inr (12, (((mF a)).set 31 (.int (1000 : Int32))).set 44 (.long (-1 : Int64))))]) u) t) A) ([.ref (a 0)] : List Value).toArray s 0 0 A) (F0 m 0 ls [])
  have X : Wd D A s [((a 0), .inr (12, (((mF a)).set 31 (.int (1000 : Int32))).set 44 (.long (-1 : Int64))))] s.heap [] := X
  obtain ⟨H, locs, eH, eL⟩ : ∃ H locs, H = s.heap ∧ locs = ([] : List Loc) := ⟨_, _, rfl, rfl⟩
  rw [← eH, ← eL] at X ⊢
  clear eH eL
  refine lv_aload_n hx hb dX12_here_0 rfl (lv_at hl 0 rfl) ?_
  refine x_get (own := RX12) (T := TX12) C X 0 rfl rfl 40 (by decide) k_25_18 rfl rfl (v := .int (0 : Int32)) rfl dX12_here_1 ?_
  refine lv_aload_n hx hb dX12_here_4 rfl (lv_at hl 0 rfl) ?_
  refine x_get (own := RX12) (T := TX12) C X 0 rfl rfl 39 (by decide) k_25_17 rfl rfl (v := .int (0 : Int32)) rfl dX12_here_5 ?_
  refine lv_icmp_ge (tgt := 27) hx hb dX12_here_8 (by decide) (fun _ => ?_) (fun c0 => absurd (by decide) c0)
  refine lv_iconst (v := (-1 : Int32)) hx hb dX12_here_27 (by decide) ?_
  exact x_iret C X hr hlk (v := (-1 : Int32)) (by first | rfl | decide) (()) [0] (by decide) rfl (⟨rfl, trivial⟩) (Nat.le_of_ble_eq_true rfl) (Nat.le_of_ble_eq_true rfl) dX12_here_28
set_option maxHeartbeats 4000000 in
set_option maxRecDepth 100000 in
theorem cm_next (l : Launch) (D : va_G) (cI cJ cZ cB : ClassId) (cO : ClassId) (a : Nat → Nat) :
    CV l D [(cI, .int), (cJ, .long), (cZ, .boolean), (cB, .byte), (cO, .object "LuckLinks$World")] yX12_next cX12_next 2 ({ frames := 1, cells := 0, slots := 0, locals := 20 } : Room) [.ref (a 0)] [((a 0), .inr (12, ((mF a)).set 31 (.int (1000 : Int32))))] (fun (u : Unit) => (True)) (fun (_ : Unit) => [((a 0), .inr (12, (((mF a)).set 31 (.int (1000 : Int32))).set 44 (.long (-1 : Int64))))]) := by
  intro sz
  refine body_of (y := yX12_next) (cc := cX12_next) (maxL := 2) (ret := none) (rm := ({ frames := 1, cells := 0, slots := 0, locals := 20 } : Room)) (wc := [((a 0), .inr (12, ((mF a)).set 31 (.int (1000 : Int32))))]) (tys := [(cI, .int), (cJ, .long), (cZ, .boolean), (cB, .byte), (cO, .object "LuckLinks$World")]) (D := D) (sz := sz) (own := RX12) (av := [.ref (a 0)]) (Qc := fun A => va_Qv (fun (u : Unit) => (True)) (fun u t => Aft D A ((fun (_ : Unit) => [((a 0), .inr (12, (((mF a)).set 31 (.int (1000 : Int32))).set 44 (.long (-1 : Int64))))]) u) t) A) (by decide) rfl (Nat.le_of_ble_eq_true rfl) (fun p e s m below meth c A ls C hr hlk hin X hl => ?_)
  have hx := C.1
  have hb := C.2.1
  have hown := C.2.2.2.1
  have hts := C.2.2.2.2.1
  have hl : lv_has ls 2 [(0, .ref (a 0))] := hl
  show W p l e _ s m _ below meth c s.heap [] 0 0 (MQ below (va_Qv (fun (u : Unit) => (True)) (fun u t => Aft D A ((fun (_ : Unit) => [((a 0), .inr (12, (((mF a)).set 31 (.int (1000 : Int32))).set 44 (.long (-1 : Int64))))]) u) t) A) ([.ref (a 0)] : List Value).toArray s 0 0 A) (F0 m 0 ls [])
  have X : Wd D A s [((a 0), .inr (12, ((mF a)).set 31 (.int (1000 : Int32))))] s.heap [] := X
  obtain ⟨H, locs, eH, eL⟩ : ∃ H locs, H = s.heap ∧ locs = ([] : List Loc) := ⟨_, _, rfl, rfl⟩
  rw [← eH, ← eL] at X ⊢
  clear eH eL
  refine lv_aload_n hx hb dX12_next_0 rfl (lv_at hl 0 rfl) ?_
  refine x_cV (own := RX12) (wr := []) (As := []) C X hl.1 (cm_here l D cI cJ cZ cB cO a) [0] [] ⟨rfl, rfl, by decide, by decide, by decide⟩ (qb := 0) rfl rfl k_26_12 k_26_13 k_26_14 k_1_5 k_26_15 (n := 0) (by decide +kernel) ⟨Nat.le_of_ble_eq_true rfl, Nat.le_of_ble_eq_true rfl⟩ rfl rfl (Nat.le_of_ble_eq_true rfl) dX12_next_1 ⟨Nat.le_of_ble_eq_true rfl, Nat.le_of_ble_eq_true rfl⟩ (fun r_2 u_1 H locs w_3 X => ?_)
  have X : Wd D A s [((a 0), .inr (12, ((mF a)).set 31 (.int (1000 : Int32))))] H locs := X
  refine W.widen (k := 0) (n := 0) (Nat.le_of_ble_eq_true rfl) (Nat.le_of_ble_eq_true rfl) ?_
  obtain ⟨rfl, fw_3⟩ : r_2 = (-1 : Int32) ∧ True := w_3
  refine lv_bipush (v := (32 : Int32)) hx hb dX12_next_4 (by decide) ?_
  refine lv_icmp_eq (tgt := 18) hx hb dX12_next_6 (by decide) (fun c0 => absurd c0 (by decide)) (fun _ => ?_)
  refine lv_aload_n hx hb dX12_next_9 rfl (lv_at hl 0 rfl) ?_
  refine x_cV (own := RX12) (wr := []) (As := []) C X hl.1 (cm_here l D cI cJ cZ cB cO a) [0] [] ⟨rfl, rfl, by decide, by decide, by decide⟩ (qb := 0) rfl rfl k_26_12 k_26_13 k_26_14 k_1_5 k_26_15 (n := 0) (by decide +kernel) ⟨Nat.le_of_ble_eq_true rfl, Nat.le_of_ble_eq_true rfl⟩ rfl rfl (Nat.le_of_ble_eq_true rfl) dX12_next_10 ⟨Nat.le_of_ble_eq_true rfl, Nat.le_of_ble_eq_true rfl⟩ (fun r_5 u_4 H locs w_6 X => ?_)
  have X : Wd D A s [((a 0), .inr (12, ((mF a)).set 31 (.int (1000 : Int32))))] H locs := X
  refine W.widen (k := 0) (n := 0) (Nat.le_of_ble_eq_true rfl) (Nat.le_of_ble_eq_true rfl) ?_
  obtain ⟨rfl, fw_6⟩ : r_5 = (-1 : Int32) ∧ True := w_6
  refine lv_bipush (v := (10 : Int32)) hx hb dX12_next_13 (by decide) ?_
  refine lv_icmp_ne (tgt := 31) hx hb dX12_next_15 (by decide) (fun _ => ?_) (fun c0 => absurd c0 (by decide))
  refine lv_aload_n hx hb dX12_next_31 rfl (lv_at hl 0 rfl) ?_
  refine lv_aload_n hx hb dX12_next_32 rfl (lv_at hl 0 rfl) ?_
  refine x_get (own := RX12) (T := TX12) C X 0 rfl rfl 40 (by decide) k_25_18 rfl rfl (v := .int (0 : Int32)) rfl dX12_next_33 ?_
  refine x_put (own := RX12) (T := TX12) C X 0 rfl rfl 41 (by decide) k_26_6 rfl rfl rfl (ty := .int) (v := .int (0 : Int32)) (by decide +kernel) rfl rfl (Nat.le_of_ble_eq_true rfl) dX12_next_36 (fun H locs X => ?_)
  have X : Wd D A s [((a 0), .inr (12, (((mF a)).set 31 (.int (1000 : Int32))).set 41 (.int (0 : Int32))))] H locs := X
  refine lv_aload_n hx hb dX12_next_39 rfl (lv_at hl 0 rfl) ?_
  refine x_cV (own := RX12) (wr := []) (As := []) C X hl.1 (cm_here l D cI cJ cZ cB cO a) [0] [] ⟨rfl, rfl, by decide, by decide, by decide⟩ (qb := 0) rfl rfl k_26_12 k_26_13 k_26_14 k_1_5 k_26_15 (n := 0) (by decide +kernel) ⟨Nat.le_of_ble_eq_true rfl, Nat.le_of_ble_eq_true rfl⟩ rfl rfl (Nat.le_of_ble_eq_true rfl) dX12_next_40 ⟨Nat.le_of_ble_eq_true rfl, Nat.le_of_ble_eq_true rfl⟩ (fun r_8 u_7 H locs w_9 X => ?_)
  have X : Wd D A s [((a 0), .inr (12, (((mF a)).set 31 (.int (1000 : Int32))).set 41 (.int (0 : Int32))))] H locs := X
  refine W.widen (k := 0) (n := 0) (Nat.le_of_ble_eq_true rfl) (Nat.le_of_ble_eq_true rfl) ?_
  obtain ⟨rfl, fw_9⟩ : r_8 = (-1 : Int32) ∧ True := w_9
  refine lv_istore_n (lv' := [(1, .int (-1 : Int32)), (0, .ref (a 0))]) hx hb dX12_next_43 rfl hl (by decide) rfl (fun ls hl => ?_)
  refine lv_aload_n hx hb dX12_next_44 rfl (lv_at hl 1 rfl) ?_
  refine lv_ldc2 (own := RX12) (v := (-1 : Int64)) hx hb hown (hts _ k_26_7) dX12_next_45 ?_
  refine x_put (own := RX12) (T := TX12) C X 0 rfl rfl 44 (by decide) k_26_8 rfl rfl rfl (ty := .long) (v := .long (-1 : Int64)) (by decide +kernel) rfl rfl (Nat.le_of_ble_eq_true rfl) dX12_next_48 (fun H locs X => ?_)
  have X : Wd D A s [((a 0), .inr (12, ((((mF a)).set 31 (.int (1000 : Int32))).set 41 (.int (0 : Int32))).set 44 (.long (-1 : Int64))))] H locs := X
  refine lv_aload_n hx hb dX12_next_51 rfl (lv_at hl 1 rfl) ?_
  refine lv_iconst (v := (0 : Int32)) hx hb dX12_next_52 (by decide) ?_
  refine x_put (own := RX12) (T := TX12) C X 0 rfl rfl 43 (by decide) k_26_9 rfl rfl rfl (ty := .int) (v := .int (0 : Int32)) (by decide +kernel) rfl rfl (Nat.le_of_ble_eq_true rfl) dX12_next_53 (fun H locs X => ?_)
  have X : Wd D A s [((a 0), .inr (12, (((((mF a)).set 31 (.int (1000 : Int32))).set 41 (.int (0 : Int32))).set 44 (.long (-1 : Int64))).set 43 (.int (0 : Int32))))] H locs := X
  refine lv_iload_n hx hb dX12_next_56 rfl (lv_at hl 0 rfl) ?_
  refine lv_if_ge (tgt := 68) hx hb dX12_next_57 (by decide) (fun c0 => absurd c0 (by decide)) (fun _ => ?_)
  refine lv_aload_n hx hb dX12_next_60 rfl (lv_at hl 1 rfl) ?_
  refine lv_iconst (v := (0 : Int32)) hx hb dX12_next_61 (by decide) ?_
  refine x_put (own := RX12) (T := TX12) C X 0 rfl rfl 42 (by decide) k_25_21 rfl rfl rfl (ty := .int) (v := .int (0 : Int32)) (by decide +kernel) rfl rfl (Nat.le_of_ble_eq_true rfl) dX12_next_62 (fun H locs X => ?_)
  have X : Wd D A s [((a 0), .inr (12, ((((((mF a)).set 31 (.int (1000 : Int32))).set 41 (.int (0 : Int32))).set 44 (.long (-1 : Int64))).set 43 (.int (0 : Int32))).set 42 (.int (0 : Int32))))] H locs := X
  refine lv_goto (tgt := 303) hx hb dX12_next_65 (by decide) ?_
  exact x_vret C X hr hlk (()) [0] (by decide) rfl (trivial) (Nat.le_of_ble_eq_true rfl) (Nat.le_of_ble_eq_true rfl) dX12_next_303
set_option maxHeartbeats 4000000 in
set_option maxRecDepth 100000 in
theorem cm_takes (l : Launch) (D : va_G) (cI cJ cZ cB : ClassId) (cO : ClassId) (a : Nat → Nat) :
    CV l D [(cI, .int), (cJ, .long), (cZ, .boolean), (cB, .byte), (cO, .object "LuckLinks$World")] yX12_takes cX12_takes 2 ({ frames := 0, cells := 0, slots := 0, locals := 0 } : Room) [.ref (a 0)] [((a 0), .inr (12, (((mF a)).set 31 (.int (1000 : Int32))).set 44 (.long (-1 : Int64)))), ((a 14), .inl (cI, 2, .inl (fun _ => (0 : Int32)))), ((a 15), .inl (cI, 2, .inl (fun _ => (0 : Int32)))), ((a 16), .inl (cI, 2, .inl (fun _ => (0 : Int32)))), ((a 17), .inl (cI, 8, .inl (fun _ => (0 : Int32)))), ((a 18), .inl (cI, 8, .inl (fun _ => (0 : Int32)))), ((a 19), .inl (cI, 6, .inl (fun _ => (0 : Int32)))), ((a 20), .inl (cI, 42, .inl (fun _ => (0 : Int32)))), ((a 21), .inl (cI, 42, .inl (fun _ => (0 : Int32)))), ((a 23), .inl (cZ, 80, .inl (fun _ => (0 : Int32)))), ((a 22), .inl (cI, 80, .inl (fun _ => (0 : Int32)))), ((a 24), .inl (cI, 80, .inl (fun _ => (0 : Int32)))), ((a 25), .inl (cI, 80, .inl (fun _ => (0 : Int32)))), ((a 26), .inl (cI, 80, .inl (fun _ => (0 : Int32)))), ((a 27), .inl (cI, 80, .inl (fun _ => (0 : Int32)))), ((a 28), .inl (cI, 80, .inl (fun _ => (0 : Int32)))), ((a 29), .inl (cI, 80, .inl (fun _ => (0 : Int32)))), ((a 30), .inl (cI, 80, .inl (fun _ => (0 : Int32)))), ((a 31), .inl (cI, 2000, .inl (fun _ => (0 : Int32)))), ((a 32), .inl (cI, 2000, .inl (fun _ => (0 : Int32)))), ((a 33), .inl (cI, 2000, .inl (fun _ => (0 : Int32)))), ((a 34), .inl (cI, 2000, .inl (fun _ => (0 : Int32))))] (fun (u : Unit) => (True)) (fun (_ : Unit) => [((a 0), .inr (12, (((mF a)).set 31 (.int (1000 : Int32))).set 44 (.long (-1 : Int64)))), ((a 14), .inl (cI, 2, .inl (fun _ => (0 : Int32))))]) := by
  intro sz
  refine body_of (y := yX12_takes) (cc := cX12_takes) (maxL := 2) (ret := none) (rm := ({ frames := 0, cells := 0, slots := 0, locals := 0 } : Room)) (wc := [((a 0), .inr (12, (((mF a)).set 31 (.int (1000 : Int32))).set 44 (.long (-1 : Int64)))), ((a 14), .inl (cI, 2, .inl (fun _ => (0 : Int32)))), ((a 15), .inl (cI, 2, .inl (fun _ => (0 : Int32)))), ((a 16), .inl (cI, 2, .inl (fun _ => (0 : Int32)))), ((a 17), .inl (cI, 8, .inl (fun _ => (0 : Int32)))), ((a 18), .inl (cI, 8, .inl (fun _ => (0 : Int32)))), ((a 19), .inl (cI, 6, .inl (fun _ => (0 : Int32)))), ((a 20), .inl (cI, 42, .inl (fun _ => (0 : Int32)))), ((a 21), .inl (cI, 42, .inl (fun _ => (0 : Int32)))), ((a 23), .inl (cZ, 80, .inl (fun _ => (0 : Int32)))), ((a 22), .inl (cI, 80, .inl (fun _ => (0 : Int32)))), ((a 24), .inl (cI, 80, .inl (fun _ => (0 : Int32)))), ((a 25), .inl (cI, 80, .inl (fun _ => (0 : Int32)))), ((a 26), .inl (cI, 80, .inl (fun _ => (0 : Int32)))), ((a 27), .inl (cI, 80, .inl (fun _ => (0 : Int32)))), ((a 28), .inl (cI, 80, .inl (fun _ => (0 : Int32)))), ((a 29), .inl (cI, 80, .inl (fun _ => (0 : Int32)))), ((a 30), .inl (cI, 80, .inl (fun _ => (0 : Int32)))), ((a 31), .inl (cI, 2000, .inl (fun _ => (0 : Int32)))), ((a 32), .inl (cI, 2000, .inl (fun _ => (0 : Int32)))), ((a 33), .inl (cI, 2000, .inl (fun _ => (0 : Int32)))), ((a 34), .inl (cI, 2000, .inl (fun _ => (0 : Int32))))]) (tys := [(cI, .int), (cJ, .long), (cZ, .boolean), (cB, .byte), (cO, .object "LuckLinks$World")]) (D := D) (sz := sz) (own := RX12) (av := [.ref (a 0)]) (Qc := fun A => va_Qv (fun (u : Unit) => (True)) (fun u t => Aft D A ((fun (_ : Unit) => [((a 0), .inr (12, (((mF a)).set 31 (.int (1000 : Int32))).set 44 (.long (-1 : Int64)))), ((a 14), .inl (cI, 2, .inl (fun _ => (0 : Int32))))]) u) t) A) (by decide) rfl (Nat.le_of_ble_eq_true rfl) (fun p e s m below meth c A ls C hr hlk hin X hl => ?_)
  have hx := C.1
  have hb := C.2.1
  have hown := C.2.2.2.1
  have hts := C.2.2.2.2.1
  have hl : lv_has ls 2 [(0, .ref (a 0))] := hl
  show W p l e _ s m _ below meth c s.heap [] 0 0 (MQ below (va_Qv (fun (u : Unit) => (True)) (fun u t => Aft D A ((fun (_ : Unit) => [((a 0), .inr (12, (((mF a)).set 31 (.int (1000 : Int32))).set 44 (.long (-1 : Int64)))), ((a 14), .inl (cI, 2, .inl (fun _ => (0 : Int32))))]) u) t) A) ([.ref (a 0)] : List Value).toArray s 0 0 A) (F0 m 0 ls [])
  have X : Wd D A s [((a 0), .inr (12, (((mF a)).set 31 (.int (1000 : Int32))).set 44 (.long (-1 : Int64)))), ((a 14), .inl (cI, 2, .inl (fun _ => (0 : Int32)))), ((a 15), .inl (cI, 2, .inl (fun _ => (0 : Int32)))), ((a 16), .inl (cI, 2, .inl (fun _ => (0 : Int32)))), ((a 17), .inl (cI, 8, .inl (fun _ => (0 : Int32)))), ((a 18), .inl (cI, 8, .inl (fun _ => (0 : Int32)))), ((a 19), .inl (cI, 6, .inl (fun _ => (0 : Int32)))), ((a 20), .inl (cI, 42, .inl (fun _ => (0 : Int32)))), ((a 21), .inl (cI, 42, .inl (fun _ => (0 : Int32)))), ((a 23), .inl (cZ, 80, .inl (fun _ => (0 : Int32)))), ((a 22), .inl (cI, 80, .inl (fun _ => (0 : Int32)))), ((a 24), .inl (cI, 80, .inl (fun _ => (0 : Int32)))), ((a 25), .inl (cI, 80, .inl (fun _ => (0 : Int32)))), ((a 26), .inl (cI, 80, .inl (fun _ => (0 : Int32)))), ((a 27), .inl (cI, 80, .inl (fun _ => (0 : Int32)))), ((a 28), .inl (cI, 80, .inl (fun _ => (0 : Int32)))), ((a 29), .inl (cI, 80, .inl (fun _ => (0 : Int32)))), ((a 30), .inl (cI, 80, .inl (fun _ => (0 : Int32)))), ((a 31), .inl (cI, 2000, .inl (fun _ => (0 : Int32)))), ((a 32), .inl (cI, 2000, .inl (fun _ => (0 : Int32)))), ((a 33), .inl (cI, 2000, .inl (fun _ => (0 : Int32)))), ((a 34), .inl (cI, 2000, .inl (fun _ => (0 : Int32))))] s.heap [] := X
  obtain ⟨H, locs, eH, eL⟩ : ∃ H locs, H = s.heap ∧ locs = ([] : List Loc) := ⟨_, _, rfl, rfl⟩
  rw [← eH, ← eL] at X ⊢
  clear eH eL
  refine lv_aload_n hx hb dX12_takes_0 rfl (lv_at hl 0 rfl) ?_
  refine x_get (own := RX12) (T := TX12) C X 0 rfl rfl 14 (by decide) k_10_6 rfl rfl (v := .ref (a 14)) rfl dX12_takes_1 ?_
  refine lv_iconst (v := (0 : Int32)) hx hb dX12_takes_4 (by decide) ?_
  refine lv_aload_n hx hb dX12_takes_5 rfl (lv_at hl 0 rfl) ?_
  refine x_get (own := RX12) (T := TX12) C X 0 rfl rfl 14 (by decide) k_10_6 rfl rfl (v := .ref (a 14)) rfl dX12_takes_6 ?_
  refine lv_iconst (v := (1 : Int32)) hx hb dX12_takes_9 (by decide) ?_
  refine x_iald C X 1 0 rfl rfl (j := 1) rfl (vp_in_nI (n := 1) (by omega) (by omega)) (v := (0 : Int32)) (rfl) dX12_takes_10 ?_
  refine x_iast C X 1 0 rfl rfl (j := 0) rfl (vp_in_nI (n := 0) (by omega) (by omega)) dX12_takes_11 (fun H locs X => ?_)
  have X := x_cng X 1 rfl (arr_eq _ _ (g := fun _ => (0 : Int32)) (fun j h => by first | rfl | (unfold upd; split <;> rfl)))
  have X : Wd D A s [((a 0), .inr (12, (((mF a)).set 31 (.int (1000 : Int32))).set 44 (.long (-1 : Int64)))), ((a 14), .inl (cI, 2, .inl (fun _ => (0 : Int32)))), ((a 15), .inl (cI, 2, .inl (fun _ => (0 : Int32)))), ((a 16), .inl (cI, 2, .inl (fun _ => (0 : Int32)))), ((a 17), .inl (cI, 8, .inl (fun _ => (0 : Int32)))), ((a 18), .inl (cI, 8, .inl (fun _ => (0 : Int32)))), ((a 19), .inl (cI, 6, .inl (fun _ => (0 : Int32)))), ((a 20), .inl (cI, 42, .inl (fun _ => (0 : Int32)))), ((a 21), .inl (cI, 42, .inl (fun _ => (0 : Int32)))), ((a 23), .inl (cZ, 80, .inl (fun _ => (0 : Int32)))), ((a 22), .inl (cI, 80, .inl (fun _ => (0 : Int32)))), ((a 24), .inl (cI, 80, .inl (fun _ => (0 : Int32)))), ((a 25), .inl (cI, 80, .inl (fun _ => (0 : Int32)))), ((a 26), .inl (cI, 80, .inl (fun _ => (0 : Int32)))), ((a 27), .inl (cI, 80, .inl (fun _ => (0 : Int32)))), ((a 28), .inl (cI, 80, .inl (fun _ => (0 : Int32)))), ((a 29), .inl (cI, 80, .inl (fun _ => (0 : Int32)))), ((a 30), .inl (cI, 80, .inl (fun _ => (0 : Int32)))), ((a 31), .inl (cI, 2000, .inl (fun _ => (0 : Int32)))), ((a 32), .inl (cI, 2000, .inl (fun _ => (0 : Int32)))), ((a 33), .inl (cI, 2000, .inl (fun _ => (0 : Int32)))), ((a 34), .inl (cI, 2000, .inl (fun _ => (0 : Int32))))] H locs := X
  refine lv_aload_n hx hb dX12_takes_12 rfl (lv_at hl 0 rfl) ?_
  refine x_get (own := RX12) (T := TX12) C X 0 rfl rfl 15 (by decide) k_10_7 rfl rfl (v := .ref (a 15)) rfl dX12_takes_13 ?_
  refine lv_iconst (v := (0 : Int32)) hx hb dX12_takes_16 (by decide) ?_
  refine lv_aload_n hx hb dX12_takes_17 rfl (lv_at hl 0 rfl) ?_
  refine x_get (own := RX12) (T := TX12) C X 0 rfl rfl 15 (by decide) k_10_7 rfl rfl (v := .ref (a 15)) rfl dX12_takes_18 ?_
  refine lv_iconst (v := (1 : Int32)) hx hb dX12_takes_21 (by decide) ?_
  refine x_iald C X 2 0 rfl rfl (j := 1) rfl (vp_in_nI (n := 1) (by omega) (by omega)) (v := (0 : Int32)) (rfl) dX12_takes_22 ?_
  refine x_iast C X 2 0 rfl rfl (j := 0) rfl (vp_in_nI (n := 0) (by omega) (by omega)) dX12_takes_23 (fun H locs X => ?_)
  have X := x_cng X 2 rfl (arr_eq _ _ (g := fun _ => (0 : Int32)) (fun j h => by first | rfl | (unfold upd; split <;> rfl)))
  have X : Wd D A s [((a 0), .inr (12, (((mF a)).set 31 (.int (1000 : Int32))).set 44 (.long (-1 : Int64)))), ((a 14), .inl (cI, 2, .inl (fun _ => (0 : Int32)))), ((a 15), .inl (cI, 2, .inl (fun _ => (0 : Int32)))), ((a 16), .inl (cI, 2, .inl (fun _ => (0 : Int32)))), ((a 17), .inl (cI, 8, .inl (fun _ => (0 : Int32)))), ((a 18), .inl (cI, 8, .inl (fun _ => (0 : Int32)))), ((a 19), .inl (cI, 6, .inl (fun _ => (0 : Int32)))), ((a 20), .inl (cI, 42, .inl (fun _ => (0 : Int32)))), ((a 21), .inl (cI, 42, .inl (fun _ => (0 : Int32)))), ((a 23), .inl (cZ, 80, .inl (fun _ => (0 : Int32)))), ((a 22), .inl (cI, 80, .inl (fun _ => (0 : Int32)))), ((a 24), .inl (cI, 80, .inl (fun _ => (0 : Int32)))), ((a 25), .inl (cI, 80, .inl (fun _ => (0 : Int32)))), ((a 26), .inl (cI, 80, .inl (fun _ => (0 : Int32)))), ((a 27), .inl (cI, 80, .inl (fun _ => (0 : Int32)))), ((a 28), .inl (cI, 80, .inl (fun _ => (0 : Int32)))), ((a 29), .inl (cI, 80, .inl (fun _ => (0 : Int32)))), ((a 30), .inl (cI, 80, .inl (fun _ => (0 : Int32)))), ((a 31), .inl (cI, 2000, .inl (fun _ => (0 : Int32)))), ((a 32), .inl (cI, 2000, .inl (fun _ => (0 : Int32)))), ((a 33), .inl (cI, 2000, .inl (fun _ => (0 : Int32)))), ((a 34), .inl (cI, 2000, .inl (fun _ => (0 : Int32))))] H locs := X
  refine lv_aload_n hx hb dX12_takes_24 rfl (lv_at hl 0 rfl) ?_
  refine x_get (own := RX12) (T := TX12) C X 0 rfl rfl 16 (by decide) k_10_8 rfl rfl (v := .ref (a 16)) rfl dX12_takes_25 ?_
  refine lv_iconst (v := (0 : Int32)) hx hb dX12_takes_28 (by decide) ?_
  refine lv_aload_n hx hb dX12_takes_29 rfl (lv_at hl 0 rfl) ?_
  refine x_get (own := RX12) (T := TX12) C X 0 rfl rfl 16 (by decide) k_10_8 rfl rfl (v := .ref (a 16)) rfl dX12_takes_30 ?_
  refine lv_iconst (v := (1 : Int32)) hx hb dX12_takes_33 (by decide) ?_
  refine x_iald C X 3 0 rfl rfl (j := 1) rfl (vp_in_nI (n := 1) (by omega) (by omega)) (v := (0 : Int32)) (rfl) dX12_takes_34 ?_
  refine x_iast C X 3 0 rfl rfl (j := 0) rfl (vp_in_nI (n := 0) (by omega) (by omega)) dX12_takes_35 (fun H locs X => ?_)
  have X := x_cng X 3 rfl (arr_eq _ _ (g := fun _ => (0 : Int32)) (fun j h => by first | rfl | (unfold upd; split <;> rfl)))
  have X : Wd D A s [((a 0), .inr (12, (((mF a)).set 31 (.int (1000 : Int32))).set 44 (.long (-1 : Int64)))), ((a 14), .inl (cI, 2, .inl (fun _ => (0 : Int32)))), ((a 15), .inl (cI, 2, .inl (fun _ => (0 : Int32)))), ((a 16), .inl (cI, 2, .inl (fun _ => (0 : Int32)))), ((a 17), .inl (cI, 8, .inl (fun _ => (0 : Int32)))), ((a 18), .inl (cI, 8, .inl (fun _ => (0 : Int32)))), ((a 19), .inl (cI, 6, .inl (fun _ => (0 : Int32)))), ((a 20), .inl (cI, 42, .inl (fun _ => (0 : Int32)))), ((a 21), .inl (cI, 42, .inl (fun _ => (0 : Int32)))), ((a 23), .inl (cZ, 80, .inl (fun _ => (0 : Int32)))), ((a 22), .inl (cI, 80, .inl (fun _ => (0 : Int32)))), ((a 24), .inl (cI, 80, .inl (fun _ => (0 : Int32)))), ((a 25), .inl (cI, 80, .inl (fun _ => (0 : Int32)))), ((a 26), .inl (cI, 80, .inl (fun _ => (0 : Int32)))), ((a 27), .inl (cI, 80, .inl (fun _ => (0 : Int32)))), ((a 28), .inl (cI, 80, .inl (fun _ => (0 : Int32)))), ((a 29), .inl (cI, 80, .inl (fun _ => (0 : Int32)))), ((a 30), .inl (cI, 80, .inl (fun _ => (0 : Int32)))), ((a 31), .inl (cI, 2000, .inl (fun _ => (0 : Int32)))), ((a 32), .inl (cI, 2000, .inl (fun _ => (0 : Int32)))), ((a 33), .inl (cI, 2000, .inl (fun _ => (0 : Int32)))), ((a 34), .inl (cI, 2000, .inl (fun _ => (0 : Int32))))] H locs := X
  refine lv_iconst (v := (0 : Int32)) hx hb dX12_takes_36 (by decide) ?_
  refine lv_istore_n (lv' := [(1, .int (0 : Int32)), (0, .ref (a 0))]) hx hb dX12_takes_37 rfl hl (by decide) rfl (fun ls hl => ?_)
  have L38 : ∀ (n : Nat) (i : Nat) (H : Heap) (locs : List Loc) (ls : Array Slot), (h1 : i ≤ 4) → 4 < i + n → Wd D A s [((a 0), .inr (12, (((mF a)).set 31 (.int (1000 : Int32))).set 44 (.long (-1 : Int64)))), ((a 14), .inl (cI, 2, .inl (fun _ => (0 : Int32)))), ((a 15), .inl (cI, 2, .inl (fun _ => (0 : Int32)))), ((a 16), .inl (cI, 2, .inl (fun _ => (0 : Int32)))), ((a 17), .inl (cI, 8, .inl (fun _ => (0 : Int32)))), ((a 18), .inl (cI, 8, .inl (fun _ => (0 : Int32)))), ((a 19), .inl (cI, 6, .inl (fun _ => (0 : Int32)))), ((a 20), .inl (cI, 42, .inl (fun _ => (0 : Int32)))), ((a 21), .inl (cI, 42, .inl (fun _ => (0 : Int32)))), ((a 23), .inl (cZ, 80, .inl (fun _ => (0 : Int32)))), ((a 22), .inl (cI, 80, .inl (fun _ => (0 : Int32)))), ((a 24), .inl (cI, 80, .inl (fun _ => (0 : Int32)))), ((a 25), .inl (cI, 80, .inl (fun _ => (0 : Int32)))), ((a 26), .inl (cI, 80, .inl (fun _ => (0 : Int32)))), ((a 27), .inl (cI, 80, .inl (fun _ => (0 : Int32)))), ((a 28), .inl (cI, 80, .inl (fun _ => (0 : Int32)))), ((a 29), .inl (cI, 80, .inl (fun _ => (0 : Int32)))), ((a 30), .inl (cI, 80, .inl (fun _ => (0 : Int32)))), ((a 31), .inl (cI, 2000, .inl (fun _ => (0 : Int32)))), ((a 32), .inl (cI, 2000, .inl (fun _ => (0 : Int32)))), ((a 33), .inl (cI, 2000, .inl (fun _ => (0 : Int32)))), ((a 34), .inl (cI, 2000, .inl (fun _ => (0 : Int32))))] H locs → lv_has ls 2 [(1, .int (nI (i))), (0, .ref (a 0))] → W p l e ({ frames := 0, cells := 0, slots := 0, locals := 0 } : Room) s m ([.ref (a 0)] : List Value).toArray below meth c H locs 0 0 (MQ below (va_Qv (fun (u : Unit) => (True)) (fun u t => Aft D A ((fun (_ : Unit) => [((a 0), .inr (12, (((mF a)).set 31 (.int (1000 : Int32))).set 44 (.long (-1 : Int64)))), ((a 14), .inl (cI, 2, .inl (fun _ => (0 : Int32))))]) u) t) A) ([.ref (a 0)] : List Value).toArray s 0 0 A) (F0 m 38 ls []) := by
    intro n
    induction n with
    | zero => intro i H locs ls h1 hn; exact absurd hn (by omega)
    | succ n ih =>
      intro i H locs ls h1 hn X hl
      have ih38 := ih
      refine lv_iload_n hx hb dX12_takes_38 rfl (lv_at hl 0 rfl) ?_
      refine lv_iconst (v := (4 : Int32)) hx hb dX12_takes_39 (by decide) ?_
      refine lv_icmp_ge (tgt := 77) hx hb dX12_takes_40 (by decide) (fun c_1 => ?_) (fun c_1 => ?_)
      · have fc_1 : (4 : Int) ≤ ((i : Nat) : Int) := (by have h9 := i_le c_1; simp only [nI_toInt (n := i) (by omega)] at h9; exact h9)
        refine lv_iconst (v := (0 : Int32)) hx hb dX12_takes_77 (by decide) ?_
        refine lv_istore_n (lv' := [(1, .int (0 : Int32)), (0, .ref (a 0))]) hx hb dX12_takes_78 rfl hl (by decide) rfl (fun ls hl => ?_)
        have L79 : ∀ (n : Nat) (i : Nat) (H : Heap) (locs : List Loc) (ls : Array Slot), (h1 : i ≤ 3) → 3 < i + n → Wd D A s [((a 0), .inr (12, (((mF a)).set 31 (.int (1000 : Int32))).set 44 (.long (-1 : Int64)))), ((a 14), .inl (cI, 2, .inl (fun _ => (0 : Int32)))), ((a 15), .inl (cI, 2, .inl (fun _ => (0 : Int32)))), ((a 16), .inl (cI, 2, .inl (fun _ => (0 : Int32)))), ((a 17), .inl (cI, 8, .inl (fun _ => (0 : Int32)))), ((a 18), .inl (cI, 8, .inl (fun _ => (0 : Int32)))), ((a 19), .inl (cI, 6, .inl (fun _ => (0 : Int32)))), ((a 20), .inl (cI, 42, .inl (fun _ => (0 : Int32)))), ((a 21), .inl (cI, 42, .inl (fun _ => (0 : Int32)))), ((a 23), .inl (cZ, 80, .inl (fun _ => (0 : Int32)))), ((a 22), .inl (cI, 80, .inl (fun _ => (0 : Int32)))), ((a 24), .inl (cI, 80, .inl (fun _ => (0 : Int32)))), ((a 25), .inl (cI, 80, .inl (fun _ => (0 : Int32)))), ((a 26), .inl (cI, 80, .inl (fun _ => (0 : Int32)))), ((a 27), .inl (cI, 80, .inl (fun _ => (0 : Int32)))), ((a 28), .inl (cI, 80, .inl (fun _ => (0 : Int32)))), ((a 29), .inl (cI, 80, .inl (fun _ => (0 : Int32)))), ((a 30), .inl (cI, 80, .inl (fun _ => (0 : Int32)))), ((a 31), .inl (cI, 2000, .inl (fun _ => (0 : Int32)))), ((a 32), .inl (cI, 2000, .inl (fun _ => (0 : Int32)))), ((a 33), .inl (cI, 2000, .inl (fun _ => (0 : Int32)))), ((a 34), .inl (cI, 2000, .inl (fun _ => (0 : Int32))))] H locs → lv_has ls 2 [(1, .int (nI (i))), (0, .ref (a 0))] → W p l e ({ frames := 0, cells := 0, slots := 0, locals := 0 } : Room) s m ([.ref (a 0)] : List Value).toArray below meth c H locs 0 0 (MQ below (va_Qv (fun (u : Unit) => (True)) (fun u t => Aft D A ((fun (_ : Unit) => [((a 0), .inr (12, (((mF a)).set 31 (.int (1000 : Int32))).set 44 (.long (-1 : Int64)))), ((a 14), .inl (cI, 2, .inl (fun _ => (0 : Int32))))]) u) t) A) ([.ref (a 0)] : List Value).toArray s 0 0 A) (F0 m 79 ls []) := by
          intro n
          induction n with
          | zero => intro i H locs ls h1 hn; exact absurd hn (by omega)
          | succ n ih =>
            intro i H locs ls h1 hn X hl
            have ih79 := ih
            refine lv_iload_n hx hb dX12_takes_79 rfl (lv_at hl 0 rfl) ?_
            refine lv_iconst (v := (3 : Int32)) hx hb dX12_takes_80 (by decide) ?_
            refine lv_icmp_ge (tgt := 104) hx hb dX12_takes_81 (by decide) (fun c_2 => ?_) (fun c_2 => ?_)
            · have fc_2 : (3 : Int) ≤ ((i : Nat) : Int) := (by have h9 := i_le c_2; simp only [nI_toInt (n := i) (by omega)] at h9; exact h9)
              refine lv_iconst (v := (0 : Int32)) hx hb dX12_takes_104 (by decide) ?_
              refine lv_istore_n (lv' := [(1, .int (0 : Int32)), (0, .ref (a 0))]) hx hb dX12_takes_105 rfl hl (by decide) rfl (fun ls hl => ?_)
              have L106 : ∀ (n : Nat) (i : Nat) (H : Heap) (locs : List Loc) (ls : Array Slot), (h1 : i ≤ 21) → 21 < i + n → Wd D A s [((a 0), .inr (12, (((mF a)).set 31 (.int (1000 : Int32))).set 44 (.long (-1 : Int64)))), ((a 14), .inl (cI, 2, .inl (fun _ => (0 : Int32)))), ((a 15), .inl (cI, 2, .inl (fun _ => (0 : Int32)))), ((a 16), .inl (cI, 2, .inl (fun _ => (0 : Int32)))), ((a 17), .inl (cI, 8, .inl (fun _ => (0 : Int32)))), ((a 18), .inl (cI, 8, .inl (fun _ => (0 : Int32)))), ((a 19), .inl (cI, 6, .inl (fun _ => (0 : Int32)))), ((a 20), .inl (cI, 42, .inl (fun _ => (0 : Int32)))), ((a 21), .inl (cI, 42, .inl (fun _ => (0 : Int32)))), ((a 23), .inl (cZ, 80, .inl (fun _ => (0 : Int32)))), ((a 22), .inl (cI, 80, .inl (fun _ => (0 : Int32)))), ((a 24), .inl (cI, 80, .inl (fun _ => (0 : Int32)))), ((a 25), .inl (cI, 80, .inl (fun _ => (0 : Int32)))), ((a 26), .inl (cI, 80, .inl (fun _ => (0 : Int32)))), ((a 27), .inl (cI, 80, .inl (fun _ => (0 : Int32)))), ((a 28), .inl (cI, 80, .inl (fun _ => (0 : Int32)))), ((a 29), .inl (cI, 80, .inl (fun _ => (0 : Int32)))), ((a 30), .inl (cI, 80, .inl (fun _ => (0 : Int32)))), ((a 31), .inl (cI, 2000, .inl (fun _ => (0 : Int32)))), ((a 32), .inl (cI, 2000, .inl (fun _ => (0 : Int32)))), ((a 33), .inl (cI, 2000, .inl (fun _ => (0 : Int32)))), ((a 34), .inl (cI, 2000, .inl (fun _ => (0 : Int32))))] H locs → lv_has ls 2 [(1, .int (nI (i))), (0, .ref (a 0))] → W p l e ({ frames := 0, cells := 0, slots := 0, locals := 0 } : Room) s m ([.ref (a 0)] : List Value).toArray below meth c H locs 0 0 (MQ below (va_Qv (fun (u : Unit) => (True)) (fun u t => Aft D A ((fun (_ : Unit) => [((a 0), .inr (12, (((mF a)).set 31 (.int (1000 : Int32))).set 44 (.long (-1 : Int64)))), ((a 14), .inl (cI, 2, .inl (fun _ => (0 : Int32))))]) u) t) A) ([.ref (a 0)] : List Value).toArray s 0 0 A) (F0 m 106 ls []) := by
                intro n
                induction n with
                | zero => intro i H locs ls h1 hn; exact absurd hn (by omega)
                | succ n ih =>
                  intro i H locs ls h1 hn X hl
                  have ih106 := ih
                  refine lv_iload_n hx hb dX12_takes_106 rfl (lv_at hl 0 rfl) ?_
                  refine lv_bipush (v := (21 : Int32)) hx hb dX12_takes_107 (by decide) ?_
                  refine lv_icmp_ge (tgt := 148) hx hb dX12_takes_109 (by decide) (fun c_3 => ?_) (fun c_3 => ?_)
                  · have fc_3 : (21 : Int) ≤ ((i : Nat) : Int) := (by have h9 := i_le c_3; simp only [nI_toInt (n := i) (by omega)] at h9; exact h9)
                    refine lv_iconst (v := (0 : Int32)) hx hb dX12_takes_148 (by decide) ?_
                    refine lv_istore_n (lv' := [(1, .int (0 : Int32)), (0, .ref (a 0))]) hx hb dX12_takes_149 rfl hl (by decide) rfl (fun ls hl => ?_)
                    have L150 : ∀ (n : Nat) (i : Nat) (f150_0 : Nat → Int32) (f150_1 : Nat → Int32) (H : Heap) (locs : List Loc) (ls : Array Slot), (h1 : i ≤ 40) → 40 < i + n → Wd D A s [((a 0), .inr (12, (((mF a)).set 31 (.int (1000 : Int32))).set 44 (.long (-1 : Int64)))), ((a 14), .inl (cI, 2, .inl (fun _ => (0 : Int32)))), ((a 15), .inl (cI, 2, .inl (fun _ => (0 : Int32)))), ((a 16), .inl (cI, 2, .inl (fun _ => (0 : Int32)))), ((a 17), .inl (cI, 8, .inl (fun _ => (0 : Int32)))), ((a 18), .inl (cI, 8, .inl (fun _ => (0 : Int32)))), ((a 19), .inl (cI, 6, .inl (fun _ => (0 : Int32)))), ((a 20), .inl (cI, 42, .inl (fun _ => (0 : Int32)))), ((a 21), .inl (cI, 42, .inl (fun _ => (0 : Int32)))), ((a 23), .inl (cZ, 80, .inl (fun _ => (0 : Int32)))), ((a 22), .inl (cI, 80, .inl (fun _ => (0 : Int32)))), ((a 24), .inl (cI, 80, .inl (fun _ => (0 : Int32)))), ((a 25), .inl (cI, 80, .inl (fun _ => (0 : Int32)))), ((a 26), .inl (cI, 80, .inl (fun _ => (0 : Int32)))), ((a 27), .inl (cI, 80, .inl (fun _ => (0 : Int32)))), ((a 28), .inl (cI, 80, .inl (fun _ => (0 : Int32)))), ((a 29), .inl (cI, 80, .inl (f150_0))), ((a 30), .inl (cI, 80, .inl (f150_1))), ((a 31), .inl (cI, 2000, .inl (fun _ => (0 : Int32)))), ((a 32), .inl (cI, 2000, .inl (fun _ => (0 : Int32)))), ((a 33), .inl (cI, 2000, .inl (fun _ => (0 : Int32)))), ((a 34), .inl (cI, 2000, .inl (fun _ => (0 : Int32))))] H locs → lv_has ls 2 [(1, .int (nI (i))), (0, .ref (a 0))] → W p l e ({ frames := 0, cells := 0, slots := 0, locals := 0 } : Room) s m ([.ref (a 0)] : List Value).toArray below meth c H locs 0 0 (MQ below (va_Qv (fun (u : Unit) => (True)) (fun u t => Aft D A ((fun (_ : Unit) => [((a 0), .inr (12, (((mF a)).set 31 (.int (1000 : Int32))).set 44 (.long (-1 : Int64)))), ((a 14), .inl (cI, 2, .inl (fun _ => (0 : Int32))))]) u) t) A) ([.ref (a 0)] : List Value).toArray s 0 0 A) (F0 m 150 ls []) := by
                      intro n
                      induction n with
                      | zero => intro i f150_0 f150_1 H locs ls h1 hn; exact absurd hn (by omega)
                      | succ n ih =>
                        intro i f150_0 f150_1 H locs ls h1 hn X hl
                        have ih150 := ih
                        refine lv_iload_n hx hb dX12_takes_150 rfl (lv_at hl 0 rfl) ?_
                        refine lv_bipush (v := (40 : Int32)) hx hb dX12_takes_151 (by decide) ?_
                        refine lv_icmp_ge (tgt := 305) hx hb dX12_takes_153 (by decide) (fun c_4 => ?_) (fun c_4 => ?_)
                        · have fc_4 : (40 : Int) ≤ ((i : Nat) : Int) := (by have h9 := i_le c_4; simp only [nI_toInt (n := i) (by omega)] at h9; exact h9)
                          refine lv_iconst (v := (0 : Int32)) hx hb dX12_takes_305 (by decide) ?_
                          refine lv_istore_n (lv' := [(1, .int (0 : Int32)), (0, .ref (a 0))]) hx hb dX12_takes_306 rfl hl (by decide) rfl (fun ls hl => ?_)
                          have L307 : ∀ (n : Nat) (i : Nat) (H : Heap) (locs : List Loc) (ls : Array Slot), (h1 : i ≤ 1000) → 1000 < i + n → Wd D A s [((a 0), .inr (12, (((mF a)).set 31 (.int (1000 : Int32))).set 44 (.long (-1 : Int64)))), ((a 14), .inl (cI, 2, .inl (fun _ => (0 : Int32)))), ((a 15), .inl (cI, 2, .inl (fun _ => (0 : Int32)))), ((a 16), .inl (cI, 2, .inl (fun _ => (0 : Int32)))), ((a 17), .inl (cI, 8, .inl (fun _ => (0 : Int32)))), ((a 18), .inl (cI, 8, .inl (fun _ => (0 : Int32)))), ((a 19), .inl (cI, 6, .inl (fun _ => (0 : Int32)))), ((a 20), .inl (cI, 42, .inl (fun _ => (0 : Int32)))), ((a 21), .inl (cI, 42, .inl (fun _ => (0 : Int32)))), ((a 23), .inl (cZ, 80, .inl (fun _ => (0 : Int32)))), ((a 22), .inl (cI, 80, .inl (fun _ => (0 : Int32)))), ((a 24), .inl (cI, 80, .inl (fun _ => (0 : Int32)))), ((a 25), .inl (cI, 80, .inl (fun _ => (0 : Int32)))), ((a 26), .inl (cI, 80, .inl (fun _ => (0 : Int32)))), ((a 27), .inl (cI, 80, .inl (fun _ => (0 : Int32)))), ((a 28), .inl (cI, 80, .inl (fun _ => (0 : Int32)))), ((a 29), .inl (cI, 80, .inl (f150_0))), ((a 30), .inl (cI, 80, .inl (f150_1))), ((a 31), .inl (cI, 2000, .inl (fun _ => (0 : Int32)))), ((a 32), .inl (cI, 2000, .inl (fun _ => (0 : Int32)))), ((a 33), .inl (cI, 2000, .inl (fun _ => (0 : Int32)))), ((a 34), .inl (cI, 2000, .inl (fun _ => (0 : Int32))))] H locs → lv_has ls 2 [(1, .int (nI (i))), (0, .ref (a 0))] → W p l e ({ frames := 0, cells := 0, slots := 0, locals := 0 } : Room) s m ([.ref (a 0)] : List Value).toArray below meth c H locs 0 0 (MQ below (va_Qv (fun (u : Unit) => (True)) (fun u t => Aft D A ((fun (_ : Unit) => [((a 0), .inr (12, (((mF a)).set 31 (.int (1000 : Int32))).set 44 (.long (-1 : Int64)))), ((a 14), .inl (cI, 2, .inl (fun _ => (0 : Int32))))]) u) t) A) ([.ref (a 0)] : List Value).toArray s 0 0 A) (F0 m 307 ls []) := by
                            intro n
                            induction n with
                            | zero => intro i H locs ls h1 hn; exact absurd hn (by omega)
                            | succ n ih =>
                              intro i H locs ls h1 hn X hl
                              have ih307 := ih
                              refine lv_iload_n hx hb dX12_takes_307 rfl (lv_at hl 0 rfl) ?_
                              refine lv_sipush (v := (1000 : Int32)) hx hb dX12_takes_308 (by decide) ?_
                              refine lv_icmp_ge (tgt := 384) hx hb dX12_takes_311 (by decide) (fun c_5 => ?_) (fun c_5 => ?_)
                              · have fc_5 : (1000 : Int) ≤ ((i : Nat) : Int) := (by have h9 := i_le c_5; simp only [nI_toInt (n := i) (by omega)] at h9; exact h9)
                                exact x_vret C X hr hlk (()) [0, 1] (by decide) rfl (trivial) (Nat.le_of_ble_eq_true rfl) (Nat.le_of_ble_eq_true rfl) dX12_takes_384
                              · have fc_5 : ((i : Nat) : Int) < (1000 : Int) := (by have h9 := i_nle c_5; simp only [nI_toInt (n := i) (by omega)] at h9; exact h9)
                                refine lv_aload_n hx hb dX12_takes_314 rfl (lv_at hl 1 rfl) ?_
                                refine x_get (own := RX12) (T := TX12) C X 0 rfl rfl 32 (by decide) k_10_23 rfl rfl (v := .ref (a 31)) rfl dX12_takes_315 ?_
                                refine lv_iload_n hx hb dX12_takes_318 rfl (lv_at hl 0 rfl) ?_
                                refine lv_aload_n hx hb dX12_takes_319 rfl (lv_at hl 1 rfl) ?_
                                refine x_get (own := RX12) (T := TX12) C X 0 rfl rfl 32 (by decide) k_10_23 rfl rfl (v := .ref (a 31)) rfl dX12_takes_320 ?_
                                refine lv_sipush (v := (1000 : Int32)) hx hb dX12_takes_323 (by decide) ?_
                                refine lv_iload_n hx hb dX12_takes_326 rfl (lv_at hl 0 rfl) ?_
                                refine lv_iadd hx hb dX12_takes_327 ?_
                                refine x_eqi (show (1000 : Int32) + (nI (i)) = (nI (1000 + i)) from nI_add 1000 i) ?_
                                refine x_iald C X 18 0 rfl rfl (j := 1000 + i) (nI_clamp (by omega)) (vp_in_nI (by omega) (by omega)) (v := (0 : Int32)) (rfl) dX12_takes_328 ?_
                                refine x_iast C X 18 0 rfl rfl (j := i) (nI_clamp (by omega)) (vp_in_nI (by omega) (by omega)) dX12_takes_329 (fun H locs X => ?_)
                                have X := x_cng X 18 rfl (arr_eq _ _ (g := fun _ => (0 : Int32)) (fun j h => by first | rfl | (unfold upd; split <;> rfl)))
                                have X : Wd D A s [((a 0), .inr (12, (((mF a)).set 31 (.int (1000 : Int32))).set 44 (.long (-1 : Int64)))), ((a 14), .inl (cI, 2, .inl (fun _ => (0 : Int32)))), ((a 15), .inl (cI, 2, .inl (fun _ => (0 : Int32)))), ((a 16), .inl (cI, 2, .inl (fun _ => (0 : Int32)))), ((a 17), .inl (cI, 8, .inl (fun _ => (0 : Int32)))), ((a 18), .inl (cI, 8, .inl (fun _ => (0 : Int32)))), ((a 19), .inl (cI, 6, .inl (fun _ => (0 : Int32)))), ((a 20), .inl (cI, 42, .inl (fun _ => (0 : Int32)))), ((a 21), .inl (cI, 42, .inl (fun _ => (0 : Int32)))), ((a 23), .inl (cZ, 80, .inl (fun _ => (0 : Int32)))), ((a 22), .inl (cI, 80, .inl (fun _ => (0 : Int32)))), ((a 24), .inl (cI, 80, .inl (fun _ => (0 : Int32)))), ((a 25), .inl (cI, 80, .inl (fun _ => (0 : Int32)))), ((a 26), .inl (cI, 80, .inl (fun _ => (0 : Int32)))), ((a 27), .inl (cI, 80, .inl (fun _ => (0 : Int32)))), ((a 28), .inl (cI, 80, .inl (fun _ => (0 : Int32)))), ((a 29), .inl (cI, 80, .inl (f150_0))), ((a 30), .inl (cI, 80, .inl (f150_1))), ((a 31), .inl (cI, 2000, .inl (fun _ => (0 : Int32)))), ((a 32), .inl (cI, 2000, .inl (fun _ => (0 : Int32)))), ((a 33), .inl (cI, 2000, .inl (fun _ => (0 : Int32)))), ((a 34), .inl (cI, 2000, .inl (fun _ => (0 : Int32))))] H locs := X
                                refine lv_aload_n hx hb dX12_takes_330 rfl (lv_at hl 1 rfl) ?_
                                refine x_get (own := RX12) (T := TX12) C X 0 rfl rfl 33 (by decide) k_11_0 rfl rfl (v := .ref (a 32)) rfl dX12_takes_331 ?_
                                refine lv_iload_n hx hb dX12_takes_334 rfl (lv_at hl 0 rfl) ?_
                                refine lv_aload_n hx hb dX12_takes_335 rfl (lv_at hl 1 rfl) ?_
                                refine x_get (own := RX12) (T := TX12) C X 0 rfl rfl 33 (by decide) k_11_0 rfl rfl (v := .ref (a 32)) rfl dX12_takes_336 ?_
                                refine lv_sipush (v := (1000 : Int32)) hx hb dX12_takes_339 (by decide) ?_
                                refine lv_iload_n hx hb dX12_takes_342 rfl (lv_at hl 0 rfl) ?_
                                refine lv_iadd hx hb dX12_takes_343 ?_
                                refine x_eqi (show (1000 : Int32) + (nI (i)) = (nI (1000 + i)) from nI_add 1000 i) ?_
                                refine x_iald C X 19 0 rfl rfl (j := 1000 + i) (nI_clamp (by omega)) (vp_in_nI (by omega) (by omega)) (v := (0 : Int32)) (rfl) dX12_takes_344 ?_
                                refine x_iast C X 19 0 rfl rfl (j := i) (nI_clamp (by omega)) (vp_in_nI (by omega) (by omega)) dX12_takes_345 (fun H locs X => ?_)
                                have X := x_cng X 19 rfl (arr_eq _ _ (g := fun _ => (0 : Int32)) (fun j h => by first | rfl | (unfold upd; split <;> rfl)))
                                have X : Wd D A s [((a 0), .inr (12, (((mF a)).set 31 (.int (1000 : Int32))).set 44 (.long (-1 : Int64)))), ((a 14), .inl (cI, 2, .inl (fun _ => (0 : Int32)))), ((a 15), .inl (cI, 2, .inl (fun _ => (0 : Int32)))), ((a 16), .inl (cI, 2, .inl (fun _ => (0 : Int32)))), ((a 17), .inl (cI, 8, .inl (fun _ => (0 : Int32)))), ((a 18), .inl (cI, 8, .inl (fun _ => (0 : Int32)))), ((a 19), .inl (cI, 6, .inl (fun _ => (0 : Int32)))), ((a 20), .inl (cI, 42, .inl (fun _ => (0 : Int32)))), ((a 21), .inl (cI, 42, .inl (fun _ => (0 : Int32)))), ((a 23), .inl (cZ, 80, .inl (fun _ => (0 : Int32)))), ((a 22), .inl (cI, 80, .inl (fun _ => (0 : Int32)))), ((a 24), .inl (cI, 80, .inl (fun _ => (0 : Int32)))), ((a 25), .inl (cI, 80, .inl (fun _ => (0 : Int32)))), ((a 26), .inl (cI, 80, .inl (fun _ => (0 : Int32)))), ((a 27), .inl (cI, 80, .inl (fun _ => (0 : Int32)))), ((a 28), .inl (cI, 80, .inl (fun _ => (0 : Int32)))), ((a 29), .inl (cI, 80, .inl (f150_0))), ((a 30), .inl (cI, 80, .inl (f150_1))), ((a 31), .inl (cI, 2000, .inl (fun _ => (0 : Int32)))), ((a 32), .inl (cI, 2000, .inl (fun _ => (0 : Int32)))), ((a 33), .inl (cI, 2000, .inl (fun _ => (0 : Int32)))), ((a 34), .inl (cI, 2000, .inl (fun _ => (0 : Int32))))] H locs := X
                                refine lv_aload_n hx hb dX12_takes_346 rfl (lv_at hl 1 rfl) ?_
                                refine x_get (own := RX12) (T := TX12) C X 0 rfl rfl 34 (by decide) k_11_1 rfl rfl (v := .ref (a 33)) rfl dX12_takes_347 ?_
                                refine lv_iload_n hx hb dX12_takes_350 rfl (lv_at hl 0 rfl) ?_
                                refine lv_aload_n hx hb dX12_takes_351 rfl (lv_at hl 1 rfl) ?_
                                refine x_get (own := RX12) (T := TX12) C X 0 rfl rfl 34 (by decide) k_11_1 rfl rfl (v := .ref (a 33)) rfl dX12_takes_352 ?_
                                refine lv_sipush (v := (1000 : Int32)) hx hb dX12_takes_355 (by decide) ?_
                                refine lv_iload_n hx hb dX12_takes_358 rfl (lv_at hl 0 rfl) ?_
                                refine lv_iadd hx hb dX12_takes_359 ?_
                                refine x_eqi (show (1000 : Int32) + (nI (i)) = (nI (1000 + i)) from nI_add 1000 i) ?_
                                refine x_iald C X 20 0 rfl rfl (j := 1000 + i) (nI_clamp (by omega)) (vp_in_nI (by omega) (by omega)) (v := (0 : Int32)) (rfl) dX12_takes_360 ?_
                                refine x_iast C X 20 0 rfl rfl (j := i) (nI_clamp (by omega)) (vp_in_nI (by omega) (by omega)) dX12_takes_361 (fun H locs X => ?_)
                                have X := x_cng X 20 rfl (arr_eq _ _ (g := fun _ => (0 : Int32)) (fun j h => by first | rfl | (unfold upd; split <;> rfl)))
                                have X : Wd D A s [((a 0), .inr (12, (((mF a)).set 31 (.int (1000 : Int32))).set 44 (.long (-1 : Int64)))), ((a 14), .inl (cI, 2, .inl (fun _ => (0 : Int32)))), ((a 15), .inl (cI, 2, .inl (fun _ => (0 : Int32)))), ((a 16), .inl (cI, 2, .inl (fun _ => (0 : Int32)))), ((a 17), .inl (cI, 8, .inl (fun _ => (0 : Int32)))), ((a 18), .inl (cI, 8, .inl (fun _ => (0 : Int32)))), ((a 19), .inl (cI, 6, .inl (fun _ => (0 : Int32)))), ((a 20), .inl (cI, 42, .inl (fun _ => (0 : Int32)))), ((a 21), .inl (cI, 42, .inl (fun _ => (0 : Int32)))), ((a 23), .inl (cZ, 80, .inl (fun _ => (0 : Int32)))), ((a 22), .inl (cI, 80, .inl (fun _ => (0 : Int32)))), ((a 24), .inl (cI, 80, .inl (fun _ => (0 : Int32)))), ((a 25), .inl (cI, 80, .inl (fun _ => (0 : Int32)))), ((a 26), .inl (cI, 80, .inl (fun _ => (0 : Int32)))), ((a 27), .inl (cI, 80, .inl (fun _ => (0 : Int32)))), ((a 28), .inl (cI, 80, .inl (fun _ => (0 : Int32)))), ((a 29), .inl (cI, 80, .inl (f150_0))), ((a 30), .inl (cI, 80, .inl (f150_1))), ((a 31), .inl (cI, 2000, .inl (fun _ => (0 : Int32)))), ((a 32), .inl (cI, 2000, .inl (fun _ => (0 : Int32)))), ((a 33), .inl (cI, 2000, .inl (fun _ => (0 : Int32)))), ((a 34), .inl (cI, 2000, .inl (fun _ => (0 : Int32))))] H locs := X
                                refine lv_aload_n hx hb dX12_takes_362 rfl (lv_at hl 1 rfl) ?_
                                refine x_get (own := RX12) (T := TX12) C X 0 rfl rfl 35 (by decide) k_11_2 rfl rfl (v := .ref (a 34)) rfl dX12_takes_363 ?_
                                refine lv_iload_n hx hb dX12_takes_366 rfl (lv_at hl 0 rfl) ?_
                                refine lv_aload_n hx hb dX12_takes_367 rfl (lv_at hl 1 rfl) ?_
                                refine x_get (own := RX12) (T := TX12) C X 0 rfl rfl 35 (by decide) k_11_2 rfl rfl (v := .ref (a 34)) rfl dX12_takes_368 ?_
                                refine lv_sipush (v := (1000 : Int32)) hx hb dX12_takes_371 (by decide) ?_
                                refine lv_iload_n hx hb dX12_takes_374 rfl (lv_at hl 0 rfl) ?_
                                refine lv_iadd hx hb dX12_takes_375 ?_
                                refine x_eqi (show (1000 : Int32) + (nI (i)) = (nI (1000 + i)) from nI_add 1000 i) ?_
                                refine x_iald C X 21 0 rfl rfl (j := 1000 + i) (nI_clamp (by omega)) (vp_in_nI (by omega) (by omega)) (v := (0 : Int32)) (rfl) dX12_takes_376 ?_
                                refine x_iast C X 21 0 rfl rfl (j := i) (nI_clamp (by omega)) (vp_in_nI (by omega) (by omega)) dX12_takes_377 (fun H locs X => ?_)
                                have X := x_cng X 21 rfl (arr_eq _ _ (g := fun _ => (0 : Int32)) (fun j h => by first | rfl | (unfold upd; split <;> rfl)))
                                have X : Wd D A s [((a 0), .inr (12, (((mF a)).set 31 (.int (1000 : Int32))).set 44 (.long (-1 : Int64)))), ((a 14), .inl (cI, 2, .inl (fun _ => (0 : Int32)))), ((a 15), .inl (cI, 2, .inl (fun _ => (0 : Int32)))), ((a 16), .inl (cI, 2, .inl (fun _ => (0 : Int32)))), ((a 17), .inl (cI, 8, .inl (fun _ => (0 : Int32)))), ((a 18), .inl (cI, 8, .inl (fun _ => (0 : Int32)))), ((a 19), .inl (cI, 6, .inl (fun _ => (0 : Int32)))), ((a 20), .inl (cI, 42, .inl (fun _ => (0 : Int32)))), ((a 21), .inl (cI, 42, .inl (fun _ => (0 : Int32)))), ((a 23), .inl (cZ, 80, .inl (fun _ => (0 : Int32)))), ((a 22), .inl (cI, 80, .inl (fun _ => (0 : Int32)))), ((a 24), .inl (cI, 80, .inl (fun _ => (0 : Int32)))), ((a 25), .inl (cI, 80, .inl (fun _ => (0 : Int32)))), ((a 26), .inl (cI, 80, .inl (fun _ => (0 : Int32)))), ((a 27), .inl (cI, 80, .inl (fun _ => (0 : Int32)))), ((a 28), .inl (cI, 80, .inl (fun _ => (0 : Int32)))), ((a 29), .inl (cI, 80, .inl (f150_0))), ((a 30), .inl (cI, 80, .inl (f150_1))), ((a 31), .inl (cI, 2000, .inl (fun _ => (0 : Int32)))), ((a 32), .inl (cI, 2000, .inl (fun _ => (0 : Int32)))), ((a 33), .inl (cI, 2000, .inl (fun _ => (0 : Int32)))), ((a 34), .inl (cI, 2000, .inl (fun _ => (0 : Int32))))] H locs := X
                                refine lv_iinc (v := (nI (i + 1))) (lv' := [(1, .int (nI (i + 1))), (0, .ref (a 0))]) hx hb dX12_takes_378 hl (k := 0) rfl (nI_add _ 1) (by decide) rfl (fun ls hl => ?_)
                                refine lv_goto (tgt := 307) hx hb dX12_takes_381 (by decide) ?_
                                exact ih307  (i + 1) H locs ls (by omega) (by omega) (x_sub X [0, 1, 2, 3, 4, 5, 6, 7, 8, 9, 10, 11, 12, 13, 14, 15, 16, 17, 18, 19, 20, 21] (by decide) rfl) (lv_sub hl [0, 1] rfl)
                          exact L307 (1000 + 1) (0) H locs ls (by omega) (by omega) (x_sub X [0, 1, 2, 3, 4, 5, 6, 7, 8, 9, 10, 11, 12, 13, 14, 15, 16, 17, 18, 19, 20, 21] (by decide) rfl) (lv_sub hl [0, 1] rfl)
                        · have fc_4 : ((i : Nat) : Int) < (40 : Int) := (by have h9 := i_nle c_4; simp only [nI_toInt (n := i) (by omega)] at h9; exact h9)
                          refine lv_aload_n hx hb dX12_takes_156 rfl (lv_at hl 1 rfl) ?_
                          refine x_get (own := RX12) (T := TX12) C X 0 rfl rfl 23 (by decide) k_10_15 rfl rfl (v := .ref (a 23)) rfl dX12_takes_157 ?_
                          refine lv_iload_n hx hb dX12_takes_160 rfl (lv_at hl 0 rfl) ?_
                          refine lv_aload_n hx hb dX12_takes_161 rfl (lv_at hl 1 rfl) ?_
                          refine x_get (own := RX12) (T := TX12) C X 0 rfl rfl 23 (by decide) k_10_15 rfl rfl (v := .ref (a 23)) rfl dX12_takes_162 ?_
                          refine lv_bipush (v := (40 : Int32)) hx hb dX12_takes_165 (by decide) ?_
                          refine lv_iload_n hx hb dX12_takes_167 rfl (lv_at hl 0 rfl) ?_
                          refine lv_iadd hx hb dX12_takes_168 ?_
                          refine x_eqi (show (40 : Int32) + (nI (i)) = (nI (40 + i)) from nI_add 40 i) ?_
                          refine x_zald C X 9 2 rfl rfl (j := 40 + i) (nI_clamp (by omega)) (vp_in_nI (by omega) (by omega)) (v := (0 : Int32)) (rfl) dX12_takes_169 ?_
                          refine x_zast C X 9 2 rfl rfl (j := i) (nI_clamp (by omega)) (vp_in_nI (by omega) (by omega)) dX12_takes_170 (fun H locs X => ?_)
                          have X := x_cng X 9 rfl (arr_eq _ _ (g := fun _ => (0 : Int32)) (fun j h => by first | rfl | (unfold upd; split <;> rfl)))
                          have X : Wd D A s [((a 0), .inr (12, (((mF a)).set 31 (.int (1000 : Int32))).set 44 (.long (-1 : Int64)))), ((a 14), .inl (cI, 2, .inl (fun _ => (0 : Int32)))), ((a 15), .inl (cI, 2, .inl (fun _ => (0 : Int32)))), ((a 16), .inl (cI, 2, .inl (fun _ => (0 : Int32)))), ((a 17), .inl (cI, 8, .inl (fun _ => (0 : Int32)))), ((a 18), .inl (cI, 8, .inl (fun _ => (0 : Int32)))), ((a 19), .inl (cI, 6, .inl (fun _ => (0 : Int32)))), ((a 20), .inl (cI, 42, .inl (fun _ => (0 : Int32)))), ((a 21), .inl (cI, 42, .inl (fun _ => (0 : Int32)))), ((a 23), .inl (cZ, 80, .inl (fun _ => (0 : Int32)))), ((a 22), .inl (cI, 80, .inl (fun _ => (0 : Int32)))), ((a 24), .inl (cI, 80, .inl (fun _ => (0 : Int32)))), ((a 25), .inl (cI, 80, .inl (fun _ => (0 : Int32)))), ((a 26), .inl (cI, 80, .inl (fun _ => (0 : Int32)))), ((a 27), .inl (cI, 80, .inl (fun _ => (0 : Int32)))), ((a 28), .inl (cI, 80, .inl (fun _ => (0 : Int32)))), ((a 29), .inl (cI, 80, .inl (f150_0))), ((a 30), .inl (cI, 80, .inl (f150_1))), ((a 31), .inl (cI, 2000, .inl (fun _ => (0 : Int32)))), ((a 32), .inl (cI, 2000, .inl (fun _ => (0 : Int32)))), ((a 33), .inl (cI, 2000, .inl (fun _ => (0 : Int32)))), ((a 34), .inl (cI, 2000, .inl (fun _ => (0 : Int32))))] H locs := X
                          refine lv_aload_n hx hb dX12_takes_171 rfl (lv_at hl 1 rfl) ?_
                          refine x_get (own := RX12) (T := TX12) C X 0 rfl rfl 22 (by decide) k_10_14 rfl rfl (v := .ref (a 22)) rfl dX12_takes_172 ?_
                          refine lv_iload_n hx hb dX12_takes_175 rfl (lv_at hl 0 rfl) ?_
                          refine lv_aload_n hx hb dX12_takes_176 rfl (lv_at hl 1 rfl) ?_
                          refine x_get (own := RX12) (T := TX12) C X 0 rfl rfl 22 (by decide) k_10_14 rfl rfl (v := .ref (a 22)) rfl dX12_takes_177 ?_
                          refine lv_bipush (v := (40 : Int32)) hx hb dX12_takes_180 (by decide) ?_
                          refine lv_iload_n hx hb dX12_takes_182 rfl (lv_at hl 0 rfl) ?_
                          refine lv_iadd hx hb dX12_takes_183 ?_
                          refine x_eqi (show (40 : Int32) + (nI (i)) = (nI (40 + i)) from nI_add 40 i) ?_
                          refine x_iald C X 10 0 rfl rfl (j := 40 + i) (nI_clamp (by omega)) (vp_in_nI (by omega) (by omega)) (v := (0 : Int32)) (rfl) dX12_takes_184 ?_
                          refine x_iast C X 10 0 rfl rfl (j := i) (nI_clamp (by omega)) (vp_in_nI (by omega) (by omega)) dX12_takes_185 (fun H locs X => ?_)
                          have X := x_cng X 10 rfl (arr_eq _ _ (g := fun _ => (0 : Int32)) (fun j h => by first | rfl | (unfold upd; split <;> rfl)))
                          have X : Wd D A s [((a 0), .inr (12, (((mF a)).set 31 (.int (1000 : Int32))).set 44 (.long (-1 : Int64)))), ((a 14), .inl (cI, 2, .inl (fun _ => (0 : Int32)))), ((a 15), .inl (cI, 2, .inl (fun _ => (0 : Int32)))), ((a 16), .inl (cI, 2, .inl (fun _ => (0 : Int32)))), ((a 17), .inl (cI, 8, .inl (fun _ => (0 : Int32)))), ((a 18), .inl (cI, 8, .inl (fun _ => (0 : Int32)))), ((a 19), .inl (cI, 6, .inl (fun _ => (0 : Int32)))), ((a 20), .inl (cI, 42, .inl (fun _ => (0 : Int32)))), ((a 21), .inl (cI, 42, .inl (fun _ => (0 : Int32)))), ((a 23), .inl (cZ, 80, .inl (fun _ => (0 : Int32)))), ((a 22), .inl (cI, 80, .inl (fun _ => (0 : Int32)))), ((a 24), .inl (cI, 80, .inl (fun _ => (0 : Int32)))), ((a 25), .inl (cI, 80, .inl (fun _ => (0 : Int32)))), ((a 26), .inl (cI, 80, .inl (fun _ => (0 : Int32)))), ((a 27), .inl (cI, 80, .inl (fun _ => (0 : Int32)))), ((a 28), .inl (cI, 80, .inl (fun _ => (0 : Int32)))), ((a 29), .inl (cI, 80, .inl (f150_0))), ((a 30), .inl (cI, 80, .inl (f150_1))), ((a 31), .inl (cI, 2000, .inl (fun _ => (0 : Int32)))), ((a 32), .inl (cI, 2000, .inl (fun _ => (0 : Int32)))), ((a 33), .inl (cI, 2000, .inl (fun _ => (0 : Int32)))), ((a 34), .inl (cI, 2000, .inl (fun _ => (0 : Int32))))] H locs := X
                          refine lv_aload_n hx hb dX12_takes_186 rfl (lv_at hl 1 rfl) ?_
                          refine x_get (own := RX12) (T := TX12) C X 0 rfl rfl 24 (by decide) k_10_16 rfl rfl (v := .ref (a 24)) rfl dX12_takes_187 ?_
                          refine lv_iload_n hx hb dX12_takes_190 rfl (lv_at hl 0 rfl) ?_
                          refine lv_aload_n hx hb dX12_takes_191 rfl (lv_at hl 1 rfl) ?_
                          refine x_get (own := RX12) (T := TX12) C X 0 rfl rfl 24 (by decide) k_10_16 rfl rfl (v := .ref (a 24)) rfl dX12_takes_192 ?_
                          refine lv_bipush (v := (40 : Int32)) hx hb dX12_takes_195 (by decide) ?_
                          refine lv_iload_n hx hb dX12_takes_197 rfl (lv_at hl 0 rfl) ?_
                          refine lv_iadd hx hb dX12_takes_198 ?_
                          refine x_eqi (show (40 : Int32) + (nI (i)) = (nI (40 + i)) from nI_add 40 i) ?_
                          refine x_iald C X 11 0 rfl rfl (j := 40 + i) (nI_clamp (by omega)) (vp_in_nI (by omega) (by omega)) (v := (0 : Int32)) (rfl) dX12_takes_199 ?_
                          refine x_iast C X 11 0 rfl rfl (j := i) (nI_clamp (by omega)) (vp_in_nI (by omega) (by omega)) dX12_takes_200 (fun H locs X => ?_)
                          have X := x_cng X 11 rfl (arr_eq _ _ (g := fun _ => (0 : Int32)) (fun j h => by first | rfl | (unfold upd; split <;> rfl)))
                          have X : Wd D A s [((a 0), .inr (12, (((mF a)).set 31 (.int (1000 : Int32))).set 44 (.long (-1 : Int64)))), ((a 14), .inl (cI, 2, .inl (fun _ => (0 : Int32)))), ((a 15), .inl (cI, 2, .inl (fun _ => (0 : Int32)))), ((a 16), .inl (cI, 2, .inl (fun _ => (0 : Int32)))), ((a 17), .inl (cI, 8, .inl (fun _ => (0 : Int32)))), ((a 18), .inl (cI, 8, .inl (fun _ => (0 : Int32)))), ((a 19), .inl (cI, 6, .inl (fun _ => (0 : Int32)))), ((a 20), .inl (cI, 42, .inl (fun _ => (0 : Int32)))), ((a 21), .inl (cI, 42, .inl (fun _ => (0 : Int32)))), ((a 23), .inl (cZ, 80, .inl (fun _ => (0 : Int32)))), ((a 22), .inl (cI, 80, .inl (fun _ => (0 : Int32)))), ((a 24), .inl (cI, 80, .inl (fun _ => (0 : Int32)))), ((a 25), .inl (cI, 80, .inl (fun _ => (0 : Int32)))), ((a 26), .inl (cI, 80, .inl (fun _ => (0 : Int32)))), ((a 27), .inl (cI, 80, .inl (fun _ => (0 : Int32)))), ((a 28), .inl (cI, 80, .inl (fun _ => (0 : Int32)))), ((a 29), .inl (cI, 80, .inl (f150_0))), ((a 30), .inl (cI, 80, .inl (f150_1))), ((a 31), .inl (cI, 2000, .inl (fun _ => (0 : Int32)))), ((a 32), .inl (cI, 2000, .inl (fun _ => (0 : Int32)))), ((a 33), .inl (cI, 2000, .inl (fun _ => (0 : Int32)))), ((a 34), .inl (cI, 2000, .inl (fun _ => (0 : Int32))))] H locs := X
                          refine lv_aload_n hx hb dX12_takes_201 rfl (lv_at hl 1 rfl) ?_
                          refine x_get (own := RX12) (T := TX12) C X 0 rfl rfl 25 (by decide) k_10_17 rfl rfl (v := .ref (a 25)) rfl dX12_takes_202 ?_
                          refine lv_iload_n hx hb dX12_takes_205 rfl (lv_at hl 0 rfl) ?_
                          refine lv_aload_n hx hb dX12_takes_206 rfl (lv_at hl 1 rfl) ?_
                          refine x_get (own := RX12) (T := TX12) C X 0 rfl rfl 25 (by decide) k_10_17 rfl rfl (v := .ref (a 25)) rfl dX12_takes_207 ?_
                          refine lv_bipush (v := (40 : Int32)) hx hb dX12_takes_210 (by decide) ?_
                          refine lv_iload_n hx hb dX12_takes_212 rfl (lv_at hl 0 rfl) ?_
                          refine lv_iadd hx hb dX12_takes_213 ?_
                          refine x_eqi (show (40 : Int32) + (nI (i)) = (nI (40 + i)) from nI_add 40 i) ?_
                          refine x_iald C X 12 0 rfl rfl (j := 40 + i) (nI_clamp (by omega)) (vp_in_nI (by omega) (by omega)) (v := (0 : Int32)) (rfl) dX12_takes_214 ?_
                          refine x_iast C X 12 0 rfl rfl (j := i) (nI_clamp (by omega)) (vp_in_nI (by omega) (by omega)) dX12_takes_215 (fun H locs X => ?_)
                          have X := x_cng X 12 rfl (arr_eq _ _ (g := fun _ => (0 : Int32)) (fun j h => by first | rfl | (unfold upd; split <;> rfl)))
                          have X : Wd D A s [((a 0), .inr (12, (((mF a)).set 31 (.int (1000 : Int32))).set 44 (.long (-1 : Int64)))), ((a 14), .inl (cI, 2, .inl (fun _ => (0 : Int32)))), ((a 15), .inl (cI, 2, .inl (fun _ => (0 : Int32)))), ((a 16), .inl (cI, 2, .inl (fun _ => (0 : Int32)))), ((a 17), .inl (cI, 8, .inl (fun _ => (0 : Int32)))), ((a 18), .inl (cI, 8, .inl (fun _ => (0 : Int32)))), ((a 19), .inl (cI, 6, .inl (fun _ => (0 : Int32)))), ((a 20), .inl (cI, 42, .inl (fun _ => (0 : Int32)))), ((a 21), .inl (cI, 42, .inl (fun _ => (0 : Int32)))), ((a 23), .inl (cZ, 80, .inl (fun _ => (0 : Int32)))), ((a 22), .inl (cI, 80, .inl (fun _ => (0 : Int32)))), ((a 24), .inl (cI, 80, .inl (fun _ => (0 : Int32)))), ((a 25), .inl (cI, 80, .inl (fun _ => (0 : Int32)))), ((a 26), .inl (cI, 80, .inl (fun _ => (0 : Int32)))), ((a 27), .inl (cI, 80, .inl (fun _ => (0 : Int32)))), ((a 28), .inl (cI, 80, .inl (fun _ => (0 : Int32)))), ((a 29), .inl (cI, 80, .inl (f150_0))), ((a 30), .inl (cI, 80, .inl (f150_1))), ((a 31), .inl (cI, 2000, .inl (fun _ => (0 : Int32)))), ((a 32), .inl (cI, 2000, .inl (fun _ => (0 : Int32)))), ((a 33), .inl (cI, 2000, .inl (fun _ => (0 : Int32)))), ((a 34), .inl (cI, 2000, .inl (fun _ => (0 : Int32))))] H locs := X
                          refine lv_aload_n hx hb dX12_takes_216 rfl (lv_at hl 1 rfl) ?_
                          refine x_get (own := RX12) (T := TX12) C X 0 rfl rfl 26 (by decide) k_10_18 rfl rfl (v := .ref (a 26)) rfl dX12_takes_217 ?_
                          refine lv_iload_n hx hb dX12_takes_220 rfl (lv_at hl 0 rfl) ?_
                          refine lv_aload_n hx hb dX12_takes_221 rfl (lv_at hl 1 rfl) ?_
                          refine x_get (own := RX12) (T := TX12) C X 0 rfl rfl 26 (by decide) k_10_18 rfl rfl (v := .ref (a 26)) rfl dX12_takes_222 ?_
                          refine lv_bipush (v := (40 : Int32)) hx hb dX12_takes_225 (by decide) ?_
                          refine lv_iload_n hx hb dX12_takes_227 rfl (lv_at hl 0 rfl) ?_
                          refine lv_iadd hx hb dX12_takes_228 ?_
                          refine x_eqi (show (40 : Int32) + (nI (i)) = (nI (40 + i)) from nI_add 40 i) ?_
                          refine x_iald C X 13 0 rfl rfl (j := 40 + i) (nI_clamp (by omega)) (vp_in_nI (by omega) (by omega)) (v := (0 : Int32)) (rfl) dX12_takes_229 ?_
                          refine x_iast C X 13 0 rfl rfl (j := i) (nI_clamp (by omega)) (vp_in_nI (by omega) (by omega)) dX12_takes_230 (fun H locs X => ?_)
                          have X := x_cng X 13 rfl (arr_eq _ _ (g := fun _ => (0 : Int32)) (fun j h => by first | rfl | (unfold upd; split <;> rfl)))
                          have X : Wd D A s [((a 0), .inr (12, (((mF a)).set 31 (.int (1000 : Int32))).set 44 (.long (-1 : Int64)))), ((a 14), .inl (cI, 2, .inl (fun _ => (0 : Int32)))), ((a 15), .inl (cI, 2, .inl (fun _ => (0 : Int32)))), ((a 16), .inl (cI, 2, .inl (fun _ => (0 : Int32)))), ((a 17), .inl (cI, 8, .inl (fun _ => (0 : Int32)))), ((a 18), .inl (cI, 8, .inl (fun _ => (0 : Int32)))), ((a 19), .inl (cI, 6, .inl (fun _ => (0 : Int32)))), ((a 20), .inl (cI, 42, .inl (fun _ => (0 : Int32)))), ((a 21), .inl (cI, 42, .inl (fun _ => (0 : Int32)))), ((a 23), .inl (cZ, 80, .inl (fun _ => (0 : Int32)))), ((a 22), .inl (cI, 80, .inl (fun _ => (0 : Int32)))), ((a 24), .inl (cI, 80, .inl (fun _ => (0 : Int32)))), ((a 25), .inl (cI, 80, .inl (fun _ => (0 : Int32)))), ((a 26), .inl (cI, 80, .inl (fun _ => (0 : Int32)))), ((a 27), .inl (cI, 80, .inl (fun _ => (0 : Int32)))), ((a 28), .inl (cI, 80, .inl (fun _ => (0 : Int32)))), ((a 29), .inl (cI, 80, .inl (f150_0))), ((a 30), .inl (cI, 80, .inl (f150_1))), ((a 31), .inl (cI, 2000, .inl (fun _ => (0 : Int32)))), ((a 32), .inl (cI, 2000, .inl (fun _ => (0 : Int32)))), ((a 33), .inl (cI, 2000, .inl (fun _ => (0 : Int32)))), ((a 34), .inl (cI, 2000, .inl (fun _ => (0 : Int32))))] H locs := X
                          refine lv_aload_n hx hb dX12_takes_231 rfl (lv_at hl 1 rfl) ?_
                          refine x_get (own := RX12) (T := TX12) C X 0 rfl rfl 27 (by decide) k_10_19 rfl rfl (v := .ref (a 27)) rfl dX12_takes_232 ?_
                          refine lv_iload_n hx hb dX12_takes_235 rfl (lv_at hl 0 rfl) ?_
                          refine lv_aload_n hx hb dX12_takes_236 rfl (lv_at hl 1 rfl) ?_
                          refine x_get (own := RX12) (T := TX12) C X 0 rfl rfl 27 (by decide) k_10_19 rfl rfl (v := .ref (a 27)) rfl dX12_takes_237 ?_
                          refine lv_bipush (v := (40 : Int32)) hx hb dX12_takes_240 (by decide) ?_
                          refine lv_iload_n hx hb dX12_takes_242 rfl (lv_at hl 0 rfl) ?_
                          refine lv_iadd hx hb dX12_takes_243 ?_
                          refine x_eqi (show (40 : Int32) + (nI (i)) = (nI (40 + i)) from nI_add 40 i) ?_
                          refine x_iald C X 14 0 rfl rfl (j := 40 + i) (nI_clamp (by omega)) (vp_in_nI (by omega) (by omega)) (v := (0 : Int32)) (rfl) dX12_takes_244 ?_
                          refine x_iast C X 14 0 rfl rfl (j := i) (nI_clamp (by omega)) (vp_in_nI (by omega) (by omega)) dX12_takes_245 (fun H locs X => ?_)
                          have X := x_cng X 14 rfl (arr_eq _ _ (g := fun _ => (0 : Int32)) (fun j h => by first | rfl | (unfold upd; split <;> rfl)))
                          have X : Wd D A s [((a 0), .inr (12, (((mF a)).set 31 (.int (1000 : Int32))).set 44 (.long (-1 : Int64)))), ((a 14), .inl (cI, 2, .inl (fun _ => (0 : Int32)))), ((a 15), .inl (cI, 2, .inl (fun _ => (0 : Int32)))), ((a 16), .inl (cI, 2, .inl (fun _ => (0 : Int32)))), ((a 17), .inl (cI, 8, .inl (fun _ => (0 : Int32)))), ((a 18), .inl (cI, 8, .inl (fun _ => (0 : Int32)))), ((a 19), .inl (cI, 6, .inl (fun _ => (0 : Int32)))), ((a 20), .inl (cI, 42, .inl (fun _ => (0 : Int32)))), ((a 21), .inl (cI, 42, .inl (fun _ => (0 : Int32)))), ((a 23), .inl (cZ, 80, .inl (fun _ => (0 : Int32)))), ((a 22), .inl (cI, 80, .inl (fun _ => (0 : Int32)))), ((a 24), .inl (cI, 80, .inl (fun _ => (0 : Int32)))), ((a 25), .inl (cI, 80, .inl (fun _ => (0 : Int32)))), ((a 26), .inl (cI, 80, .inl (fun _ => (0 : Int32)))), ((a 27), .inl (cI, 80, .inl (fun _ => (0 : Int32)))), ((a 28), .inl (cI, 80, .inl (fun _ => (0 : Int32)))), ((a 29), .inl (cI, 80, .inl (f150_0))), ((a 30), .inl (cI, 80, .inl (f150_1))), ((a 31), .inl (cI, 2000, .inl (fun _ => (0 : Int32)))), ((a 32), .inl (cI, 2000, .inl (fun _ => (0 : Int32)))), ((a 33), .inl (cI, 2000, .inl (fun _ => (0 : Int32)))), ((a 34), .inl (cI, 2000, .inl (fun _ => (0 : Int32))))] H locs := X
                          refine lv_aload_n hx hb dX12_takes_246 rfl (lv_at hl 1 rfl) ?_
                          refine x_get (own := RX12) (T := TX12) C X 0 rfl rfl 28 (by decide) k_10_20 rfl rfl (v := .ref (a 28)) rfl dX12_takes_247 ?_
                          refine lv_iload_n hx hb dX12_takes_250 rfl (lv_at hl 0 rfl) ?_
                          refine lv_aload_n hx hb dX12_takes_251 rfl (lv_at hl 1 rfl) ?_
                          refine x_get (own := RX12) (T := TX12) C X 0 rfl rfl 28 (by decide) k_10_20 rfl rfl (v := .ref (a 28)) rfl dX12_takes_252 ?_
                          refine lv_bipush (v := (40 : Int32)) hx hb dX12_takes_255 (by decide) ?_
                          refine lv_iload_n hx hb dX12_takes_257 rfl (lv_at hl 0 rfl) ?_
                          refine lv_iadd hx hb dX12_takes_258 ?_
                          refine x_eqi (show (40 : Int32) + (nI (i)) = (nI (40 + i)) from nI_add 40 i) ?_
                          refine x_iald C X 15 0 rfl rfl (j := 40 + i) (nI_clamp (by omega)) (vp_in_nI (by omega) (by omega)) (v := (0 : Int32)) (rfl) dX12_takes_259 ?_
                          refine x_iast C X 15 0 rfl rfl (j := i) (nI_clamp (by omega)) (vp_in_nI (by omega) (by omega)) dX12_takes_260 (fun H locs X => ?_)
                          have X := x_cng X 15 rfl (arr_eq _ _ (g := fun _ => (0 : Int32)) (fun j h => by first | rfl | (unfold upd; split <;> rfl)))
                          have X : Wd D A s [((a 0), .inr (12, (((mF a)).set 31 (.int (1000 : Int32))).set 44 (.long (-1 : Int64)))), ((a 14), .inl (cI, 2, .inl (fun _ => (0 : Int32)))), ((a 15), .inl (cI, 2, .inl (fun _ => (0 : Int32)))), ((a 16), .inl (cI, 2, .inl (fun _ => (0 : Int32)))), ((a 17), .inl (cI, 8, .inl (fun _ => (0 : Int32)))), ((a 18), .inl (cI, 8, .inl (fun _ => (0 : Int32)))), ((a 19), .inl (cI, 6, .inl (fun _ => (0 : Int32)))), ((a 20), .inl (cI, 42, .inl (fun _ => (0 : Int32)))), ((a 21), .inl (cI, 42, .inl (fun _ => (0 : Int32)))), ((a 23), .inl (cZ, 80, .inl (fun _ => (0 : Int32)))), ((a 22), .inl (cI, 80, .inl (fun _ => (0 : Int32)))), ((a 24), .inl (cI, 80, .inl (fun _ => (0 : Int32)))), ((a 25), .inl (cI, 80, .inl (fun _ => (0 : Int32)))), ((a 26), .inl (cI, 80, .inl (fun _ => (0 : Int32)))), ((a 27), .inl (cI, 80, .inl (fun _ => (0 : Int32)))), ((a 28), .inl (cI, 80, .inl (fun _ => (0 : Int32)))), ((a 29), .inl (cI, 80, .inl (f150_0))), ((a 30), .inl (cI, 80, .inl (f150_1))), ((a 31), .inl (cI, 2000, .inl (fun _ => (0 : Int32)))), ((a 32), .inl (cI, 2000, .inl (fun _ => (0 : Int32)))), ((a 33), .inl (cI, 2000, .inl (fun _ => (0 : Int32)))), ((a 34), .inl (cI, 2000, .inl (fun _ => (0 : Int32))))] H locs := X
                          refine lv_aload_n hx hb dX12_takes_261 rfl (lv_at hl 1 rfl) ?_
                          refine x_get (own := RX12) (T := TX12) C X 0 rfl rfl 29 (by decide) k_10_21 rfl rfl (v := .ref (a 29)) rfl dX12_takes_262 ?_
                          refine lv_iload_n hx hb dX12_takes_265 rfl (lv_at hl 0 rfl) ?_
                          refine lv_aload_n hx hb dX12_takes_266 rfl (lv_at hl 1 rfl) ?_
                          refine x_get (own := RX12) (T := TX12) C X 0 rfl rfl 29 (by decide) k_10_21 rfl rfl (v := .ref (a 29)) rfl dX12_takes_267 ?_
                          refine lv_bipush (v := (40 : Int32)) hx hb dX12_takes_270 (by decide) ?_
                          refine lv_iload_n hx hb dX12_takes_272 rfl (lv_at hl 0 rfl) ?_
                          refine lv_iadd hx hb dX12_takes_273 ?_
                          refine x_eqi (show (40 : Int32) + (nI (i)) = (nI (40 + i)) from nI_add 40 i) ?_
                          refine x_iald C X 16 0 rfl rfl (j := 40 + i) (nI_clamp (by omega)) (vp_in_nI (by omega) (by omega)) (v := ((f150_0) (40 + i))) (rfl) dX12_takes_274 ?_
                          refine lv_sipush (v := (1000 : Int32)) hx hb dX12_takes_275 (by decide) ?_
                          refine lv_isub hx hb dX12_takes_278 ?_
                          refine x_iast C X 16 0 rfl rfl (j := i) (nI_clamp (by omega)) (vp_in_nI (by omega) (by omega)) dX12_takes_279 (fun H locs X => ?_)
                          have X : Wd D A s [((a 0), .inr (12, (((mF a)).set 31 (.int (1000 : Int32))).set 44 (.long (-1 : Int64)))), ((a 14), .inl (cI, 2, .inl (fun _ => (0 : Int32)))), ((a 15), .inl (cI, 2, .inl (fun _ => (0 : Int32)))), ((a 16), .inl (cI, 2, .inl (fun _ => (0 : Int32)))), ((a 17), .inl (cI, 8, .inl (fun _ => (0 : Int32)))), ((a 18), .inl (cI, 8, .inl (fun _ => (0 : Int32)))), ((a 19), .inl (cI, 6, .inl (fun _ => (0 : Int32)))), ((a 20), .inl (cI, 42, .inl (fun _ => (0 : Int32)))), ((a 21), .inl (cI, 42, .inl (fun _ => (0 : Int32)))), ((a 23), .inl (cZ, 80, .inl (fun _ => (0 : Int32)))), ((a 22), .inl (cI, 80, .inl (fun _ => (0 : Int32)))), ((a 24), .inl (cI, 80, .inl (fun _ => (0 : Int32)))), ((a 25), .inl (cI, 80, .inl (fun _ => (0 : Int32)))), ((a 26), .inl (cI, 80, .inl (fun _ => (0 : Int32)))), ((a 27), .inl (cI, 80, .inl (fun _ => (0 : Int32)))), ((a 28), .inl (cI, 80, .inl (fun _ => (0 : Int32)))), ((a 29), .inl (cI, 80, .inl (upd (f150_0) (i) ((((f150_0) (40 + i)) - (1000 : Int32)))))), ((a 30), .inl (cI, 80, .inl (f150_1))), ((a 31), .inl (cI, 2000, .inl (fun _ => (0 : Int32)))), ((a 32), .inl (cI, 2000, .inl (fun _ => (0 : Int32)))), ((a 33), .inl (cI, 2000, .inl (fun _ => (0 : Int32)))), ((a 34), .inl (cI, 2000, .inl (fun _ => (0 : Int32))))] H locs := X
                          refine lv_aload_n hx hb dX12_takes_280 rfl (lv_at hl 1 rfl) ?_
                          refine x_get (own := RX12) (T := TX12) C X 0 rfl rfl 30 (by decide) k_10_22 rfl rfl (v := .ref (a 30)) rfl dX12_takes_281 ?_
                          refine lv_iload_n hx hb dX12_takes_284 rfl (lv_at hl 0 rfl) ?_
                          refine lv_aload_n hx hb dX12_takes_285 rfl (lv_at hl 1 rfl) ?_
                          refine x_get (own := RX12) (T := TX12) C X 0 rfl rfl 30 (by decide) k_10_22 rfl rfl (v := .ref (a 30)) rfl dX12_takes_286 ?_
                          refine lv_bipush (v := (40 : Int32)) hx hb dX12_takes_289 (by decide) ?_
                          refine lv_iload_n hx hb dX12_takes_291 rfl (lv_at hl 0 rfl) ?_
                          refine lv_iadd hx hb dX12_takes_292 ?_
                          refine x_eqi (show (40 : Int32) + (nI (i)) = (nI (40 + i)) from nI_add 40 i) ?_
                          refine x_iald C X 17 0 rfl rfl (j := 40 + i) (nI_clamp (by omega)) (vp_in_nI (by omega) (by omega)) (v := ((f150_1) (40 + i))) (rfl) dX12_takes_293 ?_
                          refine lv_sipush (v := (1000 : Int32)) hx hb dX12_takes_294 (by decide) ?_
                          refine lv_isub hx hb dX12_takes_297 ?_
                          refine x_iast C X 17 0 rfl rfl (j := i) (nI_clamp (by omega)) (vp_in_nI (by omega) (by omega)) dX12_takes_298 (fun H locs X => ?_)
                          have X : Wd D A s [((a 0), .inr (12, (((mF a)).set 31 (.int (1000 : Int32))).set 44 (.long (-1 : Int64)))), ((a 14), .inl (cI, 2, .inl (fun _ => (0 : Int32)))), ((a 15), .inl (cI, 2, .inl (fun _ => (0 : Int32)))), ((a 16), .inl (cI, 2, .inl (fun _ => (0 : Int32)))), ((a 17), .inl (cI, 8, .inl (fun _ => (0 : Int32)))), ((a 18), .inl (cI, 8, .inl (fun _ => (0 : Int32)))), ((a 19), .inl (cI, 6, .inl (fun _ => (0 : Int32)))), ((a 20), .inl (cI, 42, .inl (fun _ => (0 : Int32)))), ((a 21), .inl (cI, 42, .inl (fun _ => (0 : Int32)))), ((a 23), .inl (cZ, 80, .inl (fun _ => (0 : Int32)))), ((a 22), .inl (cI, 80, .inl (fun _ => (0 : Int32)))), ((a 24), .inl (cI, 80, .inl (fun _ => (0 : Int32)))), ((a 25), .inl (cI, 80, .inl (fun _ => (0 : Int32)))), ((a 26), .inl (cI, 80, .inl (fun _ => (0 : Int32)))), ((a 27), .inl (cI, 80, .inl (fun _ => (0 : Int32)))), ((a 28), .inl (cI, 80, .inl (fun _ => (0 : Int32)))), ((a 29), .inl (cI, 80, .inl (upd (f150_0) (i) ((((f150_0) (40 + i)) - (1000 : Int32)))))), ((a 30), .inl (cI, 80, .inl (upd (f150_1) (i) ((((f150_1) (40 + i)) - (1000 : Int32)))))), ((a 31), .inl (cI, 2000, .inl (fun _ => (0 : Int32)))), ((a 32), .inl (cI, 2000, .inl (fun _ => (0 : Int32)))), ((a 33), .inl (cI, 2000, .inl (fun _ => (0 : Int32)))), ((a 34), .inl (cI, 2000, .inl (fun _ => (0 : Int32))))] H locs := X
                          refine lv_iinc (v := (nI (i + 1))) (lv' := [(1, .int (nI (i + 1))), (0, .ref (a 0))]) hx hb dX12_takes_299 hl (k := 0) rfl (nI_add _ 1) (by decide) rfl (fun ls hl => ?_)
                          refine lv_goto (tgt := 150) hx hb dX12_takes_302 (by decide) ?_
                          exact ih150  (i + 1) (upd (f150_0) (i) ((((f150_0) (40 + i)) - (1000 : Int32)))) (upd (f150_1) (i) ((((f150_1) (40 + i)) - (1000 : Int32)))) H locs ls (by omega) (by omega) (x_sub X [0, 1, 2, 3, 4, 5, 6, 7, 8, 9, 10, 11, 12, 13, 14, 15, 16, 17, 18, 19, 20, 21] (by decide) rfl) (lv_sub hl [0, 1] rfl)
                    exact L150 (40 + 1) (0) (fun _ => (0 : Int32)) (fun _ => (0 : Int32)) H locs ls (by omega) (by omega) (x_sub X [0, 1, 2, 3, 4, 5, 6, 7, 8, 9, 10, 11, 12, 13, 14, 15, 16, 17, 18, 19, 20, 21] (by decide) rfl) (lv_sub hl [0, 1] rfl)
                  · have fc_3 : ((i : Nat) : Int) < (21 : Int) := (by have h9 := i_nle c_3; simp only [nI_toInt (n := i) (by omega)] at h9; exact h9)
                    refine lv_aload_n hx hb dX12_takes_112 rfl (lv_at hl 1 rfl) ?_
                    refine x_get (own := RX12) (T := TX12) C X 0 rfl rfl 20 (by decide) k_10_12 rfl rfl (v := .ref (a 20)) rfl dX12_takes_113 ?_
                    refine lv_iload_n hx hb dX12_takes_116 rfl (lv_at hl 0 rfl) ?_
                    refine lv_aload_n hx hb dX12_takes_117 rfl (lv_at hl 1 rfl) ?_
                    refine x_get (own := RX12) (T := TX12) C X 0 rfl rfl 20 (by decide) k_10_12 rfl rfl (v := .ref (a 20)) rfl dX12_takes_118 ?_
                    refine lv_bipush (v := (21 : Int32)) hx hb dX12_takes_121 (by decide) ?_
                    refine lv_iload_n hx hb dX12_takes_123 rfl (lv_at hl 0 rfl) ?_
                    refine lv_iadd hx hb dX12_takes_124 ?_
                    refine x_eqi (show (21 : Int32) + (nI (i)) = (nI (21 + i)) from nI_add 21 i) ?_
                    refine x_iald C X 7 0 rfl rfl (j := 21 + i) (nI_clamp (by omega)) (vp_in_nI (by omega) (by omega)) (v := (0 : Int32)) (rfl) dX12_takes_125 ?_
                    refine x_iast C X 7 0 rfl rfl (j := i) (nI_clamp (by omega)) (vp_in_nI (by omega) (by omega)) dX12_takes_126 (fun H locs X => ?_)
                    have X := x_cng X 7 rfl (arr_eq _ _ (g := fun _ => (0 : Int32)) (fun j h => by first | rfl | (unfold upd; split <;> rfl)))
                    have X : Wd D A s [((a 0), .inr (12, (((mF a)).set 31 (.int (1000 : Int32))).set 44 (.long (-1 : Int64)))), ((a 14), .inl (cI, 2, .inl (fun _ => (0 : Int32)))), ((a 15), .inl (cI, 2, .inl (fun _ => (0 : Int32)))), ((a 16), .inl (cI, 2, .inl (fun _ => (0 : Int32)))), ((a 17), .inl (cI, 8, .inl (fun _ => (0 : Int32)))), ((a 18), .inl (cI, 8, .inl (fun _ => (0 : Int32)))), ((a 19), .inl (cI, 6, .inl (fun _ => (0 : Int32)))), ((a 20), .inl (cI, 42, .inl (fun _ => (0 : Int32)))), ((a 21), .inl (cI, 42, .inl (fun _ => (0 : Int32)))), ((a 23), .inl (cZ, 80, .inl (fun _ => (0 : Int32)))), ((a 22), .inl (cI, 80, .inl (fun _ => (0 : Int32)))), ((a 24), .inl (cI, 80, .inl (fun _ => (0 : Int32)))), ((a 25), .inl (cI, 80, .inl (fun _ => (0 : Int32)))), ((a 26), .inl (cI, 80, .inl (fun _ => (0 : Int32)))), ((a 27), .inl (cI, 80, .inl (fun _ => (0 : Int32)))), ((a 28), .inl (cI, 80, .inl (fun _ => (0 : Int32)))), ((a 29), .inl (cI, 80, .inl (fun _ => (0 : Int32)))), ((a 30), .inl (cI, 80, .inl (fun _ => (0 : Int32)))), ((a 31), .inl (cI, 2000, .inl (fun _ => (0 : Int32)))), ((a 32), .inl (cI, 2000, .inl (fun _ => (0 : Int32)))), ((a 33), .inl (cI, 2000, .inl (fun _ => (0 : Int32)))), ((a 34), .inl (cI, 2000, .inl (fun _ => (0 : Int32))))] H locs := X
                    refine lv_aload_n hx hb dX12_takes_127 rfl (lv_at hl 1 rfl) ?_
                    refine x_get (own := RX12) (T := TX12) C X 0 rfl rfl 21 (by decide) k_10_13 rfl rfl (v := .ref (a 21)) rfl dX12_takes_128 ?_
                    refine lv_iload_n hx hb dX12_takes_131 rfl (lv_at hl 0 rfl) ?_
                    refine lv_aload_n hx hb dX12_takes_132 rfl (lv_at hl 1 rfl) ?_
                    refine x_get (own := RX12) (T := TX12) C X 0 rfl rfl 21 (by decide) k_10_13 rfl rfl (v := .ref (a 21)) rfl dX12_takes_133 ?_
                    refine lv_bipush (v := (21 : Int32)) hx hb dX12_takes_136 (by decide) ?_
                    refine lv_iload_n hx hb dX12_takes_138 rfl (lv_at hl 0 rfl) ?_
                    refine lv_iadd hx hb dX12_takes_139 ?_
                    refine x_eqi (show (21 : Int32) + (nI (i)) = (nI (21 + i)) from nI_add 21 i) ?_
                    refine x_iald C X 8 0 rfl rfl (j := 21 + i) (nI_clamp (by omega)) (vp_in_nI (by omega) (by omega)) (v := (0 : Int32)) (rfl) dX12_takes_140 ?_
                    refine x_iast C X 8 0 rfl rfl (j := i) (nI_clamp (by omega)) (vp_in_nI (by omega) (by omega)) dX12_takes_141 (fun H locs X => ?_)
                    have X := x_cng X 8 rfl (arr_eq _ _ (g := fun _ => (0 : Int32)) (fun j h => by first | rfl | (unfold upd; split <;> rfl)))
                    have X : Wd D A s [((a 0), .inr (12, (((mF a)).set 31 (.int (1000 : Int32))).set 44 (.long (-1 : Int64)))), ((a 14), .inl (cI, 2, .inl (fun _ => (0 : Int32)))), ((a 15), .inl (cI, 2, .inl (fun _ => (0 : Int32)))), ((a 16), .inl (cI, 2, .inl (fun _ => (0 : Int32)))), ((a 17), .inl (cI, 8, .inl (fun _ => (0 : Int32)))), ((a 18), .inl (cI, 8, .inl (fun _ => (0 : Int32)))), ((a 19), .inl (cI, 6, .inl (fun _ => (0 : Int32)))), ((a 20), .inl (cI, 42, .inl (fun _ => (0 : Int32)))), ((a 21), .inl (cI, 42, .inl (fun _ => (0 : Int32)))), ((a 23), .inl (cZ, 80, .inl (fun _ => (0 : Int32)))), ((a 22), .inl (cI, 80, .inl (fun _ => (0 : Int32)))), ((a 24), .inl (cI, 80, .inl (fun _ => (0 : Int32)))), ((a 25), .inl (cI, 80, .inl (fun _ => (0 : Int32)))), ((a 26), .inl (cI, 80, .inl (fun _ => (0 : Int32)))), ((a 27), .inl (cI, 80, .inl (fun _ => (0 : Int32)))), ((a 28), .inl (cI, 80, .inl (fun _ => (0 : Int32)))), ((a 29), .inl (cI, 80, .inl (fun _ => (0 : Int32)))), ((a 30), .inl (cI, 80, .inl (fun _ => (0 : Int32)))), ((a 31), .inl (cI, 2000, .inl (fun _ => (0 : Int32)))), ((a 32), .inl (cI, 2000, .inl (fun _ => (0 : Int32)))), ((a 33), .inl (cI, 2000, .inl (fun _ => (0 : Int32)))), ((a 34), .inl (cI, 2000, .inl (fun _ => (0 : Int32))))] H locs := X
                    refine lv_iinc (v := (nI (i + 1))) (lv' := [(1, .int (nI (i + 1))), (0, .ref (a 0))]) hx hb dX12_takes_142 hl (k := 0) rfl (nI_add _ 1) (by decide) rfl (fun ls hl => ?_)
                    refine lv_goto (tgt := 106) hx hb dX12_takes_145 (by decide) ?_
                    exact ih106  (i + 1) H locs ls (by omega) (by omega) (x_sub X [0, 1, 2, 3, 4, 5, 6, 7, 8, 9, 10, 11, 12, 13, 14, 15, 16, 17, 18, 19, 20, 21] (by decide) rfl) (lv_sub hl [0, 1] rfl)
              exact L106 (21 + 1) (0) H locs ls (by omega) (by omega) (x_sub X [0, 1, 2, 3, 4, 5, 6, 7, 8, 9, 10, 11, 12, 13, 14, 15, 16, 17, 18, 19, 20, 21] (by decide) rfl) (lv_sub hl [0, 1] rfl)
            · have fc_2 : ((i : Nat) : Int) < (3 : Int) := (by have h9 := i_nle c_2; simp only [nI_toInt (n := i) (by omega)] at h9; exact h9)
              refine lv_aload_n hx hb dX12_takes_84 rfl (lv_at hl 1 rfl) ?_
              refine x_get (own := RX12) (T := TX12) C X 0 rfl rfl 19 (by decide) k_10_11 rfl rfl (v := .ref (a 19)) rfl dX12_takes_85 ?_
              refine lv_iload_n hx hb dX12_takes_88 rfl (lv_at hl 0 rfl) ?_
              refine lv_aload_n hx hb dX12_takes_89 rfl (lv_at hl 1 rfl) ?_
              refine x_get (own := RX12) (T := TX12) C X 0 rfl rfl 19 (by decide) k_10_11 rfl rfl (v := .ref (a 19)) rfl dX12_takes_90 ?_
              refine lv_iconst (v := (3 : Int32)) hx hb dX12_takes_93 (by decide) ?_
              refine lv_iload_n hx hb dX12_takes_94 rfl (lv_at hl 0 rfl) ?_
              refine lv_iadd hx hb dX12_takes_95 ?_
              refine x_eqi (show (3 : Int32) + (nI (i)) = (nI (3 + i)) from nI_add 3 i) ?_
              refine x_iald C X 6 0 rfl rfl (j := 3 + i) (nI_clamp (by omega)) (vp_in_nI (by omega) (by omega)) (v := (0 : Int32)) (rfl) dX12_takes_96 ?_
              refine x_iast C X 6 0 rfl rfl (j := i) (nI_clamp (by omega)) (vp_in_nI (by omega) (by omega)) dX12_takes_97 (fun H locs X => ?_)
              have X := x_cng X 6 rfl (arr_eq _ _ (g := fun _ => (0 : Int32)) (fun j h => by first | rfl | (unfold upd; split <;> rfl)))
              have X : Wd D A s [((a 0), .inr (12, (((mF a)).set 31 (.int (1000 : Int32))).set 44 (.long (-1 : Int64)))), ((a 14), .inl (cI, 2, .inl (fun _ => (0 : Int32)))), ((a 15), .inl (cI, 2, .inl (fun _ => (0 : Int32)))), ((a 16), .inl (cI, 2, .inl (fun _ => (0 : Int32)))), ((a 17), .inl (cI, 8, .inl (fun _ => (0 : Int32)))), ((a 18), .inl (cI, 8, .inl (fun _ => (0 : Int32)))), ((a 19), .inl (cI, 6, .inl (fun _ => (0 : Int32)))), ((a 20), .inl (cI, 42, .inl (fun _ => (0 : Int32)))), ((a 21), .inl (cI, 42, .inl (fun _ => (0 : Int32)))), ((a 23), .inl (cZ, 80, .inl (fun _ => (0 : Int32)))), ((a 22), .inl (cI, 80, .inl (fun _ => (0 : Int32)))), ((a 24), .inl (cI, 80, .inl (fun _ => (0 : Int32)))), ((a 25), .inl (cI, 80, .inl (fun _ => (0 : Int32)))), ((a 26), .inl (cI, 80, .inl (fun _ => (0 : Int32)))), ((a 27), .inl (cI, 80, .inl (fun _ => (0 : Int32)))), ((a 28), .inl (cI, 80, .inl (fun _ => (0 : Int32)))), ((a 29), .inl (cI, 80, .inl (fun _ => (0 : Int32)))), ((a 30), .inl (cI, 80, .inl (fun _ => (0 : Int32)))), ((a 31), .inl (cI, 2000, .inl (fun _ => (0 : Int32)))), ((a 32), .inl (cI, 2000, .inl (fun _ => (0 : Int32)))), ((a 33), .inl (cI, 2000, .inl (fun _ => (0 : Int32)))), ((a 34), .inl (cI, 2000, .inl (fun _ => (0 : Int32))))] H locs := X
              refine lv_iinc (v := (nI (i + 1))) (lv' := [(1, .int (nI (i + 1))), (0, .ref (a 0))]) hx hb dX12_takes_98 hl (k := 0) rfl (nI_add _ 1) (by decide) rfl (fun ls hl => ?_)
              refine lv_goto (tgt := 79) hx hb dX12_takes_101 (by decide) ?_
              exact ih79  (i + 1) H locs ls (by omega) (by omega) (x_sub X [0, 1, 2, 3, 4, 5, 6, 7, 8, 9, 10, 11, 12, 13, 14, 15, 16, 17, 18, 19, 20, 21] (by decide) rfl) (lv_sub hl [0, 1] rfl)
        exact L79 (3 + 1) (0) H locs ls (by omega) (by omega) (x_sub X [0, 1, 2, 3, 4, 5, 6, 7, 8, 9, 10, 11, 12, 13, 14, 15, 16, 17, 18, 19, 20, 21] (by decide) rfl) (lv_sub hl [0, 1] rfl)
      · have fc_1 : ((i : Nat) : Int) < (4 : Int) := (by have h9 := i_nle c_1; simp only [nI_toInt (n := i) (by omega)] at h9; exact h9)
        refine lv_aload_n hx hb dX12_takes_43 rfl (lv_at hl 1 rfl) ?_
        refine x_get (own := RX12) (T := TX12) C X 0 rfl rfl 17 (by decide) k_10_9 rfl rfl (v := .ref (a 17)) rfl dX12_takes_44 ?_
        refine lv_iload_n hx hb dX12_takes_47 rfl (lv_at hl 0 rfl) ?_
        refine lv_aload_n hx hb dX12_takes_48 rfl (lv_at hl 1 rfl) ?_
        refine x_get (own := RX12) (T := TX12) C X 0 rfl rfl 17 (by decide) k_10_9 rfl rfl (v := .ref (a 17)) rfl dX12_takes_49 ?_
        refine lv_iconst (v := (4 : Int32)) hx hb dX12_takes_52 (by decide) ?_
        refine lv_iload_n hx hb dX12_takes_53 rfl (lv_at hl 0 rfl) ?_
        refine lv_iadd hx hb dX12_takes_54 ?_
        refine x_eqi (show (4 : Int32) + (nI (i)) = (nI (4 + i)) from nI_add 4 i) ?_
        refine x_iald C X 4 0 rfl rfl (j := 4 + i) (nI_clamp (by omega)) (vp_in_nI (by omega) (by omega)) (v := (0 : Int32)) (rfl) dX12_takes_55 ?_
        refine x_iast C X 4 0 rfl rfl (j := i) (nI_clamp (by omega)) (vp_in_nI (by omega) (by omega)) dX12_takes_56 (fun H locs X => ?_)
        have X := x_cng X 4 rfl (arr_eq _ _ (g := fun _ => (0 : Int32)) (fun j h => by first | rfl | (unfold upd; split <;> rfl)))
        have X : Wd D A s [((a 0), .inr (12, (((mF a)).set 31 (.int (1000 : Int32))).set 44 (.long (-1 : Int64)))), ((a 14), .inl (cI, 2, .inl (fun _ => (0 : Int32)))), ((a 15), .inl (cI, 2, .inl (fun _ => (0 : Int32)))), ((a 16), .inl (cI, 2, .inl (fun _ => (0 : Int32)))), ((a 17), .inl (cI, 8, .inl (fun _ => (0 : Int32)))), ((a 18), .inl (cI, 8, .inl (fun _ => (0 : Int32)))), ((a 19), .inl (cI, 6, .inl (fun _ => (0 : Int32)))), ((a 20), .inl (cI, 42, .inl (fun _ => (0 : Int32)))), ((a 21), .inl (cI, 42, .inl (fun _ => (0 : Int32)))), ((a 23), .inl (cZ, 80, .inl (fun _ => (0 : Int32)))), ((a 22), .inl (cI, 80, .inl (fun _ => (0 : Int32)))), ((a 24), .inl (cI, 80, .inl (fun _ => (0 : Int32)))), ((a 25), .inl (cI, 80, .inl (fun _ => (0 : Int32)))), ((a 26), .inl (cI, 80, .inl (fun _ => (0 : Int32)))), ((a 27), .inl (cI, 80, .inl (fun _ => (0 : Int32)))), ((a 28), .inl (cI, 80, .inl (fun _ => (0 : Int32)))), ((a 29), .inl (cI, 80, .inl (fun _ => (0 : Int32)))), ((a 30), .inl (cI, 80, .inl (fun _ => (0 : Int32)))), ((a 31), .inl (cI, 2000, .inl (fun _ => (0 : Int32)))), ((a 32), .inl (cI, 2000, .inl (fun _ => (0 : Int32)))), ((a 33), .inl (cI, 2000, .inl (fun _ => (0 : Int32)))), ((a 34), .inl (cI, 2000, .inl (fun _ => (0 : Int32))))] H locs := X
        refine lv_aload_n hx hb dX12_takes_57 rfl (lv_at hl 1 rfl) ?_
        refine x_get (own := RX12) (T := TX12) C X 0 rfl rfl 18 (by decide) k_10_10 rfl rfl (v := .ref (a 18)) rfl dX12_takes_58 ?_
        refine lv_iload_n hx hb dX12_takes_61 rfl (lv_at hl 0 rfl) ?_
        refine lv_aload_n hx hb dX12_takes_62 rfl (lv_at hl 1 rfl) ?_
        refine x_get (own := RX12) (T := TX12) C X 0 rfl rfl 18 (by decide) k_10_10 rfl rfl (v := .ref (a 18)) rfl dX12_takes_63 ?_
        refine lv_iconst (v := (4 : Int32)) hx hb dX12_takes_66 (by decide) ?_
        refine lv_iload_n hx hb dX12_takes_67 rfl (lv_at hl 0 rfl) ?_
        refine lv_iadd hx hb dX12_takes_68 ?_
        refine x_eqi (show (4 : Int32) + (nI (i)) = (nI (4 + i)) from nI_add 4 i) ?_
        refine x_iald C X 5 0 rfl rfl (j := 4 + i) (nI_clamp (by omega)) (vp_in_nI (by omega) (by omega)) (v := (0 : Int32)) (rfl) dX12_takes_69 ?_
        refine x_iast C X 5 0 rfl rfl (j := i) (nI_clamp (by omega)) (vp_in_nI (by omega) (by omega)) dX12_takes_70 (fun H locs X => ?_)
        have X := x_cng X 5 rfl (arr_eq _ _ (g := fun _ => (0 : Int32)) (fun j h => by first | rfl | (unfold upd; split <;> rfl)))
        have X : Wd D A s [((a 0), .inr (12, (((mF a)).set 31 (.int (1000 : Int32))).set 44 (.long (-1 : Int64)))), ((a 14), .inl (cI, 2, .inl (fun _ => (0 : Int32)))), ((a 15), .inl (cI, 2, .inl (fun _ => (0 : Int32)))), ((a 16), .inl (cI, 2, .inl (fun _ => (0 : Int32)))), ((a 17), .inl (cI, 8, .inl (fun _ => (0 : Int32)))), ((a 18), .inl (cI, 8, .inl (fun _ => (0 : Int32)))), ((a 19), .inl (cI, 6, .inl (fun _ => (0 : Int32)))), ((a 20), .inl (cI, 42, .inl (fun _ => (0 : Int32)))), ((a 21), .inl (cI, 42, .inl (fun _ => (0 : Int32)))), ((a 23), .inl (cZ, 80, .inl (fun _ => (0 : Int32)))), ((a 22), .inl (cI, 80, .inl (fun _ => (0 : Int32)))), ((a 24), .inl (cI, 80, .inl (fun _ => (0 : Int32)))), ((a 25), .inl (cI, 80, .inl (fun _ => (0 : Int32)))), ((a 26), .inl (cI, 80, .inl (fun _ => (0 : Int32)))), ((a 27), .inl (cI, 80, .inl (fun _ => (0 : Int32)))), ((a 28), .inl (cI, 80, .inl (fun _ => (0 : Int32)))), ((a 29), .inl (cI, 80, .inl (fun _ => (0 : Int32)))), ((a 30), .inl (cI, 80, .inl (fun _ => (0 : Int32)))), ((a 31), .inl (cI, 2000, .inl (fun _ => (0 : Int32)))), ((a 32), .inl (cI, 2000, .inl (fun _ => (0 : Int32)))), ((a 33), .inl (cI, 2000, .inl (fun _ => (0 : Int32)))), ((a 34), .inl (cI, 2000, .inl (fun _ => (0 : Int32))))] H locs := X
        refine lv_iinc (v := (nI (i + 1))) (lv' := [(1, .int (nI (i + 1))), (0, .ref (a 0))]) hx hb dX12_takes_71 hl (k := 0) rfl (nI_add _ 1) (by decide) rfl (fun ls hl => ?_)
        refine lv_goto (tgt := 38) hx hb dX12_takes_74 (by decide) ?_
        exact ih38  (i + 1) H locs ls (by omega) (by omega) (x_sub X [0, 1, 2, 3, 4, 5, 6, 7, 8, 9, 10, 11, 12, 13, 14, 15, 16, 17, 18, 19, 20, 21] (by decide) rfl) (lv_sub hl [0, 1] rfl)
  exact L38 (4 + 1) (0) H locs ls (by omega) (by omega) (x_sub X [0, 1, 2, 3, 4, 5, 6, 7, 8, 9, 10, 11, 12, 13, 14, 15, 16, 17, 18, 19, 20, 21] (by decide) rfl) (lv_sub hl [0, 1] rfl)
set_option maxHeartbeats 4000000 in
set_option maxRecDepth 100000 in
theorem cm_law (l : Launch) (D : va_G) (cI cJ cZ cB : ClassId) (cO : ClassId) (a : Nat → Nat) (p1 : Int32) :
    CI l D [(cI, .int), (cJ, .long), (cZ, .boolean), (cB, .byte), (cO, .object "LuckLinks$World")] yX12_law cX12_law 2 (some .int) ({ frames := 2, cells := 0, slots := 0, locals := 41 } : Room) [.ref (a 0), .int p1] [((a 0), .inr (12, (mF a))), ((a 14), .inl (cI, 2, .inl (fun _ => (0 : Int32)))), ((a 15), .inl (cI, 2, .inl (fun _ => (0 : Int32)))), ((a 16), .inl (cI, 2, .inl (fun _ => (0 : Int32)))), ((a 17), .inl (cI, 8, .inl (fun _ => (0 : Int32)))), ((a 18), .inl (cI, 8, .inl (fun _ => (0 : Int32)))), ((a 19), .inl (cI, 6, .inl (fun _ => (0 : Int32)))), ((a 20), .inl (cI, 42, .inl (fun _ => (0 : Int32)))), ((a 21), .inl (cI, 42, .inl (fun _ => (0 : Int32)))), ((a 23), .inl (cZ, 80, .inl (fun _ => (0 : Int32)))), ((a 22), .inl (cI, 80, .inl (fun _ => (0 : Int32)))), ((a 24), .inl (cI, 80, .inl (fun _ => (0 : Int32)))), ((a 25), .inl (cI, 80, .inl (fun _ => (0 : Int32)))), ((a 26), .inl (cI, 80, .inl (fun _ => (0 : Int32)))), ((a 27), .inl (cI, 80, .inl (fun _ => (0 : Int32)))), ((a 28), .inl (cI, 80, .inl (fun _ => (0 : Int32)))), ((a 29), .inl (cI, 80, .inl (fun _ => (0 : Int32)))), ((a 30), .inl (cI, 80, .inl (fun _ => (0 : Int32)))), ((a 31), .inl (cI, 2000, .inl (fun _ => (0 : Int32)))), ((a 32), .inl (cI, 2000, .inl (fun _ => (0 : Int32)))), ((a 33), .inl (cI, 2000, .inl (fun _ => (0 : Int32)))), ((a 34), .inl (cI, 2000, .inl (fun _ => (0 : Int32)))), ((a 13), .inl (cI, 3, .inl (fun _ => (0 : Int32)))), ((a 35), .inl (cB, 700, .inl (fun _ => (0 : Int32))))] (fun (r : Int32) (u : Unit) => (r = (0 : Int32) ∧ p1.toInt = 0) ∨ (r = (-2 : Int32) ∧ p1.toInt ≠ 0)) (fun (_ : Unit) => []) := by
  intro sz
  refine body_of (y := yX12_law) (cc := cX12_law) (maxL := 2) (ret := (some .int)) (rm := ({ frames := 2, cells := 0, slots := 0, locals := 41 } : Room)) (wc := [((a 0), .inr (12, (mF a))), ((a 14), .inl (cI, 2, .inl (fun _ => (0 : Int32)))), ((a 15), .inl (cI, 2, .inl (fun _ => (0 : Int32)))), ((a 16), .inl (cI, 2, .inl (fun _ => (0 : Int32)))), ((a 17), .inl (cI, 8, .inl (fun _ => (0 : Int32)))), ((a 18), .inl (cI, 8, .inl (fun _ => (0 : Int32)))), ((a 19), .inl (cI, 6, .inl (fun _ => (0 : Int32)))), ((a 20), .inl (cI, 42, .inl (fun _ => (0 : Int32)))), ((a 21), .inl (cI, 42, .inl (fun _ => (0 : Int32)))), ((a 23), .inl (cZ, 80, .inl (fun _ => (0 : Int32)))), ((a 22), .inl (cI, 80, .inl (fun _ => (0 : Int32)))), ((a 24), .inl (cI, 80, .inl (fun _ => (0 : Int32)))), ((a 25), .inl (cI, 80, .inl (fun _ => (0 : Int32)))), ((a 26), .inl (cI, 80, .inl (fun _ => (0 : Int32)))), ((a 27), .inl (cI, 80, .inl (fun _ => (0 : Int32)))), ((a 28), .inl (cI, 80, .inl (fun _ => (0 : Int32)))), ((a 29), .inl (cI, 80, .inl (fun _ => (0 : Int32)))), ((a 30), .inl (cI, 80, .inl (fun _ => (0 : Int32)))), ((a 31), .inl (cI, 2000, .inl (fun _ => (0 : Int32)))), ((a 32), .inl (cI, 2000, .inl (fun _ => (0 : Int32)))), ((a 33), .inl (cI, 2000, .inl (fun _ => (0 : Int32)))), ((a 34), .inl (cI, 2000, .inl (fun _ => (0 : Int32)))), ((a 13), .inl (cI, 3, .inl (fun _ => (0 : Int32)))), ((a 35), .inl (cB, 700, .inl (fun _ => (0 : Int32))))]) (tys := [(cI, .int), (cJ, .long), (cZ, .boolean), (cB, .byte), (cO, .object "LuckLinks$World")]) (D := D) (sz := sz) (own := RX12) (av := [.ref (a 0), .int p1]) (Qc := fun A => va_Qi (fun (r : Int32) (u : Unit) => (r = (0 : Int32) ∧ p1.toInt = 0) ∨ (r = (-2 : Int32) ∧ p1.toInt ≠ 0)) (fun u t => Aft D A ((fun (_ : Unit) => []) u) t) A) (by decide) rfl (Nat.le_of_ble_eq_true rfl) (fun p e s m below meth c A ls C hr hlk hin X hl => ?_)
  have hx := C.1
  have hb := C.2.1
  have hown := C.2.2.2.1
  have hts := C.2.2.2.2.1
  have hl : lv_has ls 2 [(0, .ref (a 0)), (1, .int p1)] := hl
  show W p l e _ s m _ below meth c s.heap [] 0 0 (MQ below (va_Qi (fun (r : Int32) (u : Unit) => (r = (0 : Int32) ∧ p1.toInt = 0) ∨ (r = (-2 : Int32) ∧ p1.toInt ≠ 0)) (fun u t => Aft D A ((fun (_ : Unit) => []) u) t) A) ([.ref (a 0), .int p1] : List Value).toArray s 0 0 A) (F0 m 0 ls [])
  have X : Wd D A s [((a 0), .inr (12, (mF a))), ((a 14), .inl (cI, 2, .inl (fun _ => (0 : Int32)))), ((a 15), .inl (cI, 2, .inl (fun _ => (0 : Int32)))), ((a 16), .inl (cI, 2, .inl (fun _ => (0 : Int32)))), ((a 17), .inl (cI, 8, .inl (fun _ => (0 : Int32)))), ((a 18), .inl (cI, 8, .inl (fun _ => (0 : Int32)))), ((a 19), .inl (cI, 6, .inl (fun _ => (0 : Int32)))), ((a 20), .inl (cI, 42, .inl (fun _ => (0 : Int32)))), ((a 21), .inl (cI, 42, .inl (fun _ => (0 : Int32)))), ((a 23), .inl (cZ, 80, .inl (fun _ => (0 : Int32)))), ((a 22), .inl (cI, 80, .inl (fun _ => (0 : Int32)))), ((a 24), .inl (cI, 80, .inl (fun _ => (0 : Int32)))), ((a 25), .inl (cI, 80, .inl (fun _ => (0 : Int32)))), ((a 26), .inl (cI, 80, .inl (fun _ => (0 : Int32)))), ((a 27), .inl (cI, 80, .inl (fun _ => (0 : Int32)))), ((a 28), .inl (cI, 80, .inl (fun _ => (0 : Int32)))), ((a 29), .inl (cI, 80, .inl (fun _ => (0 : Int32)))), ((a 30), .inl (cI, 80, .inl (fun _ => (0 : Int32)))), ((a 31), .inl (cI, 2000, .inl (fun _ => (0 : Int32)))), ((a 32), .inl (cI, 2000, .inl (fun _ => (0 : Int32)))), ((a 33), .inl (cI, 2000, .inl (fun _ => (0 : Int32)))), ((a 34), .inl (cI, 2000, .inl (fun _ => (0 : Int32)))), ((a 13), .inl (cI, 3, .inl (fun _ => (0 : Int32)))), ((a 35), .inl (cB, 700, .inl (fun _ => (0 : Int32))))] s.heap [] := X
  obtain ⟨H, locs, eH, eL⟩ : ∃ H locs, H = s.heap ∧ locs = ([] : List Loc) := ⟨_, _, rfl, rfl⟩
  rw [← eH, ← eL] at X ⊢
  clear eH eL
  refine lv_iload_n hx hb dX12_law_0 rfl (lv_at hl 1 rfl) ?_
  refine lv_if_lt (tgt := 12) hx hb dX12_law_1 (by decide) (fun c_1 => ?_) (fun c_1 => ?_)
  · have fc_1 : (p1).toInt < (0 : Int) := i_lt c_1
    refine lv_aload_n hx hb dX12_law_12 rfl (lv_at hl 0 rfl) ?_
    refine x_get (own := RX12) (T := TX12) C X 0 rfl rfl 13 (by decide) k_10_5 rfl rfl (v := .ref (a 13)) rfl dX12_law_13 ?_
    refine lv_iconst (v := (0 : Int32)) hx hb dX12_law_16 (by decide) ?_
    refine lv_dup2_11 hx hb dX12_law_17 rfl rfl ?_
    refine x_iald C X 22 0 rfl rfl (j := 0) rfl (vp_in_nI (n := 0) (by omega) (by omega)) (v := (0 : Int32)) (rfl) dX12_law_18 ?_
    refine lv_iconst (v := (1 : Int32)) hx hb dX12_law_19 (by decide) ?_
    refine lv_iadd hx hb dX12_law_20 ?_
    refine x_eqi (show (0 : Int32) + (1 : Int32) = (1 : Int32) from by decide +kernel) ?_
    refine x_iast C X 22 0 rfl rfl (j := 0) rfl (vp_in_nI (n := 0) (by omega) (by omega)) dX12_law_21 (fun H locs X => ?_)
    have X : Wd D A s [((a 0), .inr (12, (mF a))), ((a 14), .inl (cI, 2, .inl (fun _ => (0 : Int32)))), ((a 15), .inl (cI, 2, .inl (fun _ => (0 : Int32)))), ((a 16), .inl (cI, 2, .inl (fun _ => (0 : Int32)))), ((a 17), .inl (cI, 8, .inl (fun _ => (0 : Int32)))), ((a 18), .inl (cI, 8, .inl (fun _ => (0 : Int32)))), ((a 19), .inl (cI, 6, .inl (fun _ => (0 : Int32)))), ((a 20), .inl (cI, 42, .inl (fun _ => (0 : Int32)))), ((a 21), .inl (cI, 42, .inl (fun _ => (0 : Int32)))), ((a 23), .inl (cZ, 80, .inl (fun _ => (0 : Int32)))), ((a 22), .inl (cI, 80, .inl (fun _ => (0 : Int32)))), ((a 24), .inl (cI, 80, .inl (fun _ => (0 : Int32)))), ((a 25), .inl (cI, 80, .inl (fun _ => (0 : Int32)))), ((a 26), .inl (cI, 80, .inl (fun _ => (0 : Int32)))), ((a 27), .inl (cI, 80, .inl (fun _ => (0 : Int32)))), ((a 28), .inl (cI, 80, .inl (fun _ => (0 : Int32)))), ((a 29), .inl (cI, 80, .inl (fun _ => (0 : Int32)))), ((a 30), .inl (cI, 80, .inl (fun _ => (0 : Int32)))), ((a 31), .inl (cI, 2000, .inl (fun _ => (0 : Int32)))), ((a 32), .inl (cI, 2000, .inl (fun _ => (0 : Int32)))), ((a 33), .inl (cI, 2000, .inl (fun _ => (0 : Int32)))), ((a 34), .inl (cI, 2000, .inl (fun _ => (0 : Int32)))), ((a 13), .inl (cI, 3, .inl (upd (fun _ => (0 : Int32)) (0) ((1 : Int32))))), ((a 35), .inl (cB, 700, .inl (fun _ => (0 : Int32))))] H locs := X
    refine lv_bipush (v := (-2 : Int32)) hx hb dX12_law_22 (by decide) ?_
    exact x_iret C X hr hlk (v := (-2 : Int32)) (by first | rfl | decide) (()) [] (by decide) rfl (Or.inr (⟨rfl, by omega⟩)) (Nat.le_of_ble_eq_true rfl) (Nat.le_of_ble_eq_true rfl) dX12_law_24
  · have fc_1 : (0 : Int) ≤ (p1).toInt := i_nlt c_1
    refine lv_iload_n hx hb dX12_law_4 rfl (lv_at hl 1 rfl) ?_
    refine lv_aload_n hx hb dX12_law_5 rfl (lv_at hl 0 rfl) ?_
    refine x_get (own := RX12) (T := TX12) C X 0 rfl rfl 37 (by decide) k_18_11 rfl rfl (v := .int (0 : Int32)) rfl dX12_law_6 ?_
    refine lv_icmp_le (tgt := 25) hx hb dX12_law_9 (by decide) (fun c_2 => ?_) (fun c_2 => ?_)
    · have fc_2 : (p1).toInt ≤ (0 : Int) := i_le c_2
      have hq1 : p1 = (0 : Int32) := Int32.toInt_inj.mp (by show p1.toInt = 0; omega)
      rw [hq1] at hl
      have hl : lv_has ls 2 [(0, .ref (a 0)), (1, .int (0 : Int32))] := hl
      refine lv_aload_n hx hb dX12_law_25 rfl (lv_at hl 0 rfl) ?_
      refine lv_iload_n hx hb dX12_law_26 rfl (lv_at hl 1 rfl) ?_
      refine x_put (own := RX12) (T := TX12) C X 0 rfl rfl 39 (by decide) k_25_17 rfl rfl rfl (ty := .int) (v := .int (0 : Int32)) (by decide +kernel) rfl rfl (Nat.le_of_ble_eq_true rfl) dX12_law_27 (fun H locs X => ?_)
      have X : Wd D A s [((a 0), .inr (12, ((mF a)).set 39 (.int (0 : Int32)))), ((a 14), .inl (cI, 2, .inl (fun _ => (0 : Int32)))), ((a 15), .inl (cI, 2, .inl (fun _ => (0 : Int32)))), ((a 16), .inl (cI, 2, .inl (fun _ => (0 : Int32)))), ((a 17), .inl (cI, 8, .inl (fun _ => (0 : Int32)))), ((a 18), .inl (cI, 8, .inl (fun _ => (0 : Int32)))), ((a 19), .inl (cI, 6, .inl (fun _ => (0 : Int32)))), ((a 20), .inl (cI, 42, .inl (fun _ => (0 : Int32)))), ((a 21), .inl (cI, 42, .inl (fun _ => (0 : Int32)))), ((a 23), .inl (cZ, 80, .inl (fun _ => (0 : Int32)))), ((a 22), .inl (cI, 80, .inl (fun _ => (0 : Int32)))), ((a 24), .inl (cI, 80, .inl (fun _ => (0 : Int32)))), ((a 25), .inl (cI, 80, .inl (fun _ => (0 : Int32)))), ((a 26), .inl (cI, 80, .inl (fun _ => (0 : Int32)))), ((a 27), .inl (cI, 80, .inl (fun _ => (0 : Int32)))), ((a 28), .inl (cI, 80, .inl (fun _ => (0 : Int32)))), ((a 29), .inl (cI, 80, .inl (fun _ => (0 : Int32)))), ((a 30), .inl (cI, 80, .inl (fun _ => (0 : Int32)))), ((a 31), .inl (cI, 2000, .inl (fun _ => (0 : Int32)))), ((a 32), .inl (cI, 2000, .inl (fun _ => (0 : Int32)))), ((a 33), .inl (cI, 2000, .inl (fun _ => (0 : Int32)))), ((a 34), .inl (cI, 2000, .inl (fun _ => (0 : Int32)))), ((a 13), .inl (cI, 3, .inl (fun _ => (0 : Int32)))), ((a 35), .inl (cB, 700, .inl (fun _ => (0 : Int32))))] H locs := X
      refine lv_aload_n hx hb dX12_law_30 rfl (lv_at hl 0 rfl) ?_
      refine lv_iconst (v := (0 : Int32)) hx hb dX12_law_31 (by decide) ?_
      refine x_put (own := RX12) (T := TX12) C X 0 rfl rfl 37 (by decide) k_18_11 rfl rfl rfl (ty := .int) (v := .int (0 : Int32)) (by decide +kernel) rfl rfl (Nat.le_of_ble_eq_true rfl) dX12_law_32 (fun H locs X => ?_)
      have X : Wd D A s [((a 0), .inr (12, (((mF a)).set 39 (.int (0 : Int32))).set 37 (.int (0 : Int32)))), ((a 14), .inl (cI, 2, .inl (fun _ => (0 : Int32)))), ((a 15), .inl (cI, 2, .inl (fun _ => (0 : Int32)))), ((a 16), .inl (cI, 2, .inl (fun _ => (0 : Int32)))), ((a 17), .inl (cI, 8, .inl (fun _ => (0 : Int32)))), ((a 18), .inl (cI, 8, .inl (fun _ => (0 : Int32)))), ((a 19), .inl (cI, 6, .inl (fun _ => (0 : Int32)))), ((a 20), .inl (cI, 42, .inl (fun _ => (0 : Int32)))), ((a 21), .inl (cI, 42, .inl (fun _ => (0 : Int32)))), ((a 23), .inl (cZ, 80, .inl (fun _ => (0 : Int32)))), ((a 22), .inl (cI, 80, .inl (fun _ => (0 : Int32)))), ((a 24), .inl (cI, 80, .inl (fun _ => (0 : Int32)))), ((a 25), .inl (cI, 80, .inl (fun _ => (0 : Int32)))), ((a 26), .inl (cI, 80, .inl (fun _ => (0 : Int32)))), ((a 27), .inl (cI, 80, .inl (fun _ => (0 : Int32)))), ((a 28), .inl (cI, 80, .inl (fun _ => (0 : Int32)))), ((a 29), .inl (cI, 80, .inl (fun _ => (0 : Int32)))), ((a 30), .inl (cI, 80, .inl (fun _ => (0 : Int32)))), ((a 31), .inl (cI, 2000, .inl (fun _ => (0 : Int32)))), ((a 32), .inl (cI, 2000, .inl (fun _ => (0 : Int32)))), ((a 33), .inl (cI, 2000, .inl (fun _ => (0 : Int32)))), ((a 34), .inl (cI, 2000, .inl (fun _ => (0 : Int32)))), ((a 13), .inl (cI, 3, .inl (fun _ => (0 : Int32)))), ((a 35), .inl (cB, 700, .inl (fun _ => (0 : Int32))))] H locs := X
      refine lv_aload_n hx hb dX12_law_35 rfl (lv_at hl 0 rfl) ?_
      refine lv_iconst (v := (0 : Int32)) hx hb dX12_law_36 (by decide) ?_
      refine x_put (own := RX12) (T := TX12) C X 0 rfl rfl 40 (by decide) k_25_18 rfl rfl rfl (ty := .int) (v := .int (0 : Int32)) (by decide +kernel) rfl rfl (Nat.le_of_ble_eq_true rfl) dX12_law_37 (fun H locs X => ?_)
      have X : Wd D A s [((a 0), .inr (12, ((((mF a)).set 39 (.int (0 : Int32))).set 37 (.int (0 : Int32))).set 40 (.int (0 : Int32)))), ((a 14), .inl (cI, 2, .inl (fun _ => (0 : Int32)))), ((a 15), .inl (cI, 2, .inl (fun _ => (0 : Int32)))), ((a 16), .inl (cI, 2, .inl (fun _ => (0 : Int32)))), ((a 17), .inl (cI, 8, .inl (fun _ => (0 : Int32)))), ((a 18), .inl (cI, 8, .inl (fun _ => (0 : Int32)))), ((a 19), .inl (cI, 6, .inl (fun _ => (0 : Int32)))), ((a 20), .inl (cI, 42, .inl (fun _ => (0 : Int32)))), ((a 21), .inl (cI, 42, .inl (fun _ => (0 : Int32)))), ((a 23), .inl (cZ, 80, .inl (fun _ => (0 : Int32)))), ((a 22), .inl (cI, 80, .inl (fun _ => (0 : Int32)))), ((a 24), .inl (cI, 80, .inl (fun _ => (0 : Int32)))), ((a 25), .inl (cI, 80, .inl (fun _ => (0 : Int32)))), ((a 26), .inl (cI, 80, .inl (fun _ => (0 : Int32)))), ((a 27), .inl (cI, 80, .inl (fun _ => (0 : Int32)))), ((a 28), .inl (cI, 80, .inl (fun _ => (0 : Int32)))), ((a 29), .inl (cI, 80, .inl (fun _ => (0 : Int32)))), ((a 30), .inl (cI, 80, .inl (fun _ => (0 : Int32)))), ((a 31), .inl (cI, 2000, .inl (fun _ => (0 : Int32)))), ((a 32), .inl (cI, 2000, .inl (fun _ => (0 : Int32)))), ((a 33), .inl (cI, 2000, .inl (fun _ => (0 : Int32)))), ((a 34), .inl (cI, 2000, .inl (fun _ => (0 : Int32)))), ((a 13), .inl (cI, 3, .inl (fun _ => (0 : Int32)))), ((a 35), .inl (cB, 700, .inl (fun _ => (0 : Int32))))] H locs := X
      refine lv_aload_n hx hb dX12_law_40 rfl (lv_at hl 0 rfl) ?_
      refine lv_iconst (v := (-1 : Int32)) hx hb dX12_law_41 (by decide) ?_
      refine x_put (own := RX12) (T := TX12) C X 0 rfl rfl 38 (by decide) k_11_4 rfl rfl rfl (ty := .int) (v := .int (-1 : Int32)) (by decide +kernel) rfl rfl (Nat.le_of_ble_eq_true rfl) dX12_law_42 (fun H locs X => ?_)
      have X : Wd D A s [((a 0), .inr (12, (((((mF a)).set 39 (.int (0 : Int32))).set 37 (.int (0 : Int32))).set 40 (.int (0 : Int32))).set 38 (.int (-1 : Int32)))), ((a 14), .inl (cI, 2, .inl (fun _ => (0 : Int32)))), ((a 15), .inl (cI, 2, .inl (fun _ => (0 : Int32)))), ((a 16), .inl (cI, 2, .inl (fun _ => (0 : Int32)))), ((a 17), .inl (cI, 8, .inl (fun _ => (0 : Int32)))), ((a 18), .inl (cI, 8, .inl (fun _ => (0 : Int32)))), ((a 19), .inl (cI, 6, .inl (fun _ => (0 : Int32)))), ((a 20), .inl (cI, 42, .inl (fun _ => (0 : Int32)))), ((a 21), .inl (cI, 42, .inl (fun _ => (0 : Int32)))), ((a 23), .inl (cZ, 80, .inl (fun _ => (0 : Int32)))), ((a 22), .inl (cI, 80, .inl (fun _ => (0 : Int32)))), ((a 24), .inl (cI, 80, .inl (fun _ => (0 : Int32)))), ((a 25), .inl (cI, 80, .inl (fun _ => (0 : Int32)))), ((a 26), .inl (cI, 80, .inl (fun _ => (0 : Int32)))), ((a 27), .inl (cI, 80, .inl (fun _ => (0 : Int32)))), ((a 28), .inl (cI, 80, .inl (fun _ => (0 : Int32)))), ((a 29), .inl (cI, 80, .inl (fun _ => (0 : Int32)))), ((a 30), .inl (cI, 80, .inl (fun _ => (0 : Int32)))), ((a 31), .inl (cI, 2000, .inl (fun _ => (0 : Int32)))), ((a 32), .inl (cI, 2000, .inl (fun _ => (0 : Int32)))), ((a 33), .inl (cI, 2000, .inl (fun _ => (0 : Int32)))), ((a 34), .inl (cI, 2000, .inl (fun _ => (0 : Int32)))), ((a 13), .inl (cI, 3, .inl (fun _ => (0 : Int32)))), ((a 35), .inl (cB, 700, .inl (fun _ => (0 : Int32))))] H locs := X
      refine lv_aload_n hx hb dX12_law_45 rfl (lv_at hl 0 rfl) ?_
      refine lv_iconst (v := (0 : Int32)) hx hb dX12_law_46 (by decide) ?_
      refine x_put (own := RX12) (T := TX12) C X 0 rfl rfl 45 (by decide) k_25_19 rfl rfl rfl (ty := .boolean) (v := .int (0 : Int32)) (by decide +kernel) rfl rfl (Nat.le_of_ble_eq_true rfl) dX12_law_47 (fun H locs X => ?_)
      have X : Wd D A s [((a 0), .inr (12, ((((((mF a)).set 39 (.int (0 : Int32))).set 37 (.int (0 : Int32))).set 40 (.int (0 : Int32))).set 38 (.int (-1 : Int32))).set 45 (.int (0 : Int32)))), ((a 14), .inl (cI, 2, .inl (fun _ => (0 : Int32)))), ((a 15), .inl (cI, 2, .inl (fun _ => (0 : Int32)))), ((a 16), .inl (cI, 2, .inl (fun _ => (0 : Int32)))), ((a 17), .inl (cI, 8, .inl (fun _ => (0 : Int32)))), ((a 18), .inl (cI, 8, .inl (fun _ => (0 : Int32)))), ((a 19), .inl (cI, 6, .inl (fun _ => (0 : Int32)))), ((a 20), .inl (cI, 42, .inl (fun _ => (0 : Int32)))), ((a 21), .inl (cI, 42, .inl (fun _ => (0 : Int32)))), ((a 23), .inl (cZ, 80, .inl (fun _ => (0 : Int32)))), ((a 22), .inl (cI, 80, .inl (fun _ => (0 : Int32)))), ((a 24), .inl (cI, 80, .inl (fun _ => (0 : Int32)))), ((a 25), .inl (cI, 80, .inl (fun _ => (0 : Int32)))), ((a 26), .inl (cI, 80, .inl (fun _ => (0 : Int32)))), ((a 27), .inl (cI, 80, .inl (fun _ => (0 : Int32)))), ((a 28), .inl (cI, 80, .inl (fun _ => (0 : Int32)))), ((a 29), .inl (cI, 80, .inl (fun _ => (0 : Int32)))), ((a 30), .inl (cI, 80, .inl (fun _ => (0 : Int32)))), ((a 31), .inl (cI, 2000, .inl (fun _ => (0 : Int32)))), ((a 32), .inl (cI, 2000, .inl (fun _ => (0 : Int32)))), ((a 33), .inl (cI, 2000, .inl (fun _ => (0 : Int32)))), ((a 34), .inl (cI, 2000, .inl (fun _ => (0 : Int32)))), ((a 13), .inl (cI, 3, .inl (fun _ => (0 : Int32)))), ((a 35), .inl (cB, 700, .inl (fun _ => (0 : Int32))))] H locs := X
      refine lv_aload_n hx hb dX12_law_50 rfl (lv_at hl 0 rfl) ?_
      refine lv_sipush (v := (1000 : Int32)) hx hb dX12_law_51 (by decide) ?_
      refine x_put (own := RX12) (T := TX12) C X 0 rfl rfl 31 (by decide) k_25_20 rfl rfl rfl (ty := .int) (v := .int (1000 : Int32)) (by decide +kernel) rfl rfl (Nat.le_of_ble_eq_true rfl) dX12_law_54 (fun H locs X => ?_)
      have X : Wd D A s [((a 0), .inr (12, (((((((mF a)).set 39 (.int (0 : Int32))).set 37 (.int (0 : Int32))).set 40 (.int (0 : Int32))).set 38 (.int (-1 : Int32))).set 45 (.int (0 : Int32))).set 31 (.int (1000 : Int32)))), ((a 14), .inl (cI, 2, .inl (fun _ => (0 : Int32)))), ((a 15), .inl (cI, 2, .inl (fun _ => (0 : Int32)))), ((a 16), .inl (cI, 2, .inl (fun _ => (0 : Int32)))), ((a 17), .inl (cI, 8, .inl (fun _ => (0 : Int32)))), ((a 18), .inl (cI, 8, .inl (fun _ => (0 : Int32)))), ((a 19), .inl (cI, 6, .inl (fun _ => (0 : Int32)))), ((a 20), .inl (cI, 42, .inl (fun _ => (0 : Int32)))), ((a 21), .inl (cI, 42, .inl (fun _ => (0 : Int32)))), ((a 23), .inl (cZ, 80, .inl (fun _ => (0 : Int32)))), ((a 22), .inl (cI, 80, .inl (fun _ => (0 : Int32)))), ((a 24), .inl (cI, 80, .inl (fun _ => (0 : Int32)))), ((a 25), .inl (cI, 80, .inl (fun _ => (0 : Int32)))), ((a 26), .inl (cI, 80, .inl (fun _ => (0 : Int32)))), ((a 27), .inl (cI, 80, .inl (fun _ => (0 : Int32)))), ((a 28), .inl (cI, 80, .inl (fun _ => (0 : Int32)))), ((a 29), .inl (cI, 80, .inl (fun _ => (0 : Int32)))), ((a 30), .inl (cI, 80, .inl (fun _ => (0 : Int32)))), ((a 31), .inl (cI, 2000, .inl (fun _ => (0 : Int32)))), ((a 32), .inl (cI, 2000, .inl (fun _ => (0 : Int32)))), ((a 33), .inl (cI, 2000, .inl (fun _ => (0 : Int32)))), ((a 34), .inl (cI, 2000, .inl (fun _ => (0 : Int32)))), ((a 13), .inl (cI, 3, .inl (fun _ => (0 : Int32)))), ((a 35), .inl (cB, 700, .inl (fun _ => (0 : Int32))))] H locs := X
      refine lv_aload_n hx hb dX12_law_57 rfl (lv_at hl 0 rfl) ?_
      refine x_cVv (own := RX12) (wr := [((a 22), .inl (cI, 80, .inl (fun _ => (0 : Int32)))), ((a 24), .inl (cI, 80, .inl (fun _ => (0 : Int32)))), ((a 25), .inl (cI, 80, .inl (fun _ => (0 : Int32)))), ((a 26), .inl (cI, 80, .inl (fun _ => (0 : Int32)))), ((a 27), .inl (cI, 80, .inl (fun _ => (0 : Int32)))), ((a 28), .inl (cI, 80, .inl (fun _ => (0 : Int32)))), ((a 29), .inl (cI, 80, .inl (fun _ => (0 : Int32)))), ((a 30), .inl (cI, 80, .inl (fun _ => (0 : Int32)))), ((a 31), .inl (cI, 2000, .inl (fun _ => (0 : Int32)))), ((a 32), .inl (cI, 2000, .inl (fun _ => (0 : Int32)))), ((a 33), .inl (cI, 2000, .inl (fun _ => (0 : Int32)))), ((a 34), .inl (cI, 2000, .inl (fun _ => (0 : Int32)))), ((a 13), .inl (cI, 3, .inl (fun _ => (0 : Int32)))), ((a 35), .inl (cB, 700, .inl (fun _ => (0 : Int32))))]) (As := []) C X hl.1 (cm_clears l D cI cJ cZ cB cO a) [0, 1, 2, 3, 4, 5, 6, 7, 8, 9] [10, 11, 12, 13, 14, 15, 16, 17, 18, 19, 20, 21, 22, 23] ⟨rfl, rfl, by decide, by decide, by decide⟩ (qb := 0) rfl rfl k_25_22 k_25_23 k_26_0 k_1_5 k_26_1 (n := 0) (by decide +kernel) ⟨Nat.le_of_ble_eq_true rfl, Nat.le_of_ble_eq_true rfl⟩ rfl rfl (Nat.le_of_ble_eq_true rfl) dX12_law_58 ⟨Nat.le_of_ble_eq_true rfl, Nat.le_of_ble_eq_true rfl⟩ (fun u_3 H locs w_5 X => ?_)
      have X : Wd D A s [((a 22), .inl (cI, 80, .inl (fun _ => (0 : Int32)))), ((a 24), .inl (cI, 80, .inl (fun _ => (0 : Int32)))), ((a 25), .inl (cI, 80, .inl (fun _ => (0 : Int32)))), ((a 26), .inl (cI, 80, .inl (fun _ => (0 : Int32)))), ((a 27), .inl (cI, 80, .inl (fun _ => (0 : Int32)))), ((a 28), .inl (cI, 80, .inl (fun _ => (0 : Int32)))), ((a 29), .inl (cI, 80, .inl (fun _ => (0 : Int32)))), ((a 30), .inl (cI, 80, .inl (fun _ => (0 : Int32)))), ((a 31), .inl (cI, 2000, .inl (fun _ => (0 : Int32)))), ((a 32), .inl (cI, 2000, .inl (fun _ => (0 : Int32)))), ((a 33), .inl (cI, 2000, .inl (fun _ => (0 : Int32)))), ((a 34), .inl (cI, 2000, .inl (fun _ => (0 : Int32)))), ((a 13), .inl (cI, 3, .inl (fun _ => (0 : Int32)))), ((a 35), .inl (cB, 700, .inl (fun _ => (0 : Int32)))), ((a 0), .inr (12, (((((((mF a)).set 39 (.int (0 : Int32))).set 37 (.int (0 : Int32))).set 40 (.int (0 : Int32))).set 38 (.int (-1 : Int32))).set 45 (.int (0 : Int32))).set 31 (.int (1000 : Int32)))), ((a 14), .inl (cI, 2, .inl (fun _ => (0 : Int32)))), ((a 15), .inl (cI, 2, .inl (fun _ => (0 : Int32)))), ((a 16), .inl (cI, 2, .inl (fun _ => (0 : Int32)))), ((a 17), .inl (cI, 8, .inl (fun _ => (0 : Int32)))), ((a 18), .inl (cI, 8, .inl (fun _ => (0 : Int32)))), ((a 19), .inl (cI, 6, .inl (fun _ => (0 : Int32)))), ((a 20), .inl (cI, 42, .inl (fun _ => (0 : Int32)))), ((a 21), .inl (cI, 42, .inl (fun _ => (0 : Int32)))), ((a 23), .inl (cZ, 80, .inl (fun _ => (0 : Int32))))] H locs := X
      refine W.widen (k := 0) (n := 0) (Nat.le_of_ble_eq_true rfl) (Nat.le_of_ble_eq_true rfl) ?_
      refine lv_aload_n hx hb dX12_law_61 rfl (lv_at hl 0 rfl) ?_
      refine x_cVv (own := RX12) (wr := [((a 22), .inl (cI, 80, .inl (fun _ => (0 : Int32)))), ((a 24), .inl (cI, 80, .inl (fun _ => (0 : Int32)))), ((a 25), .inl (cI, 80, .inl (fun _ => (0 : Int32)))), ((a 26), .inl (cI, 80, .inl (fun _ => (0 : Int32)))), ((a 27), .inl (cI, 80, .inl (fun _ => (0 : Int32)))), ((a 28), .inl (cI, 80, .inl (fun _ => (0 : Int32)))), ((a 29), .inl (cI, 80, .inl (fun _ => (0 : Int32)))), ((a 30), .inl (cI, 80, .inl (fun _ => (0 : Int32)))), ((a 31), .inl (cI, 2000, .inl (fun _ => (0 : Int32)))), ((a 32), .inl (cI, 2000, .inl (fun _ => (0 : Int32)))), ((a 33), .inl (cI, 2000, .inl (fun _ => (0 : Int32)))), ((a 34), .inl (cI, 2000, .inl (fun _ => (0 : Int32)))), ((a 13), .inl (cI, 3, .inl (fun _ => (0 : Int32)))), ((a 35), .inl (cB, 700, .inl (fun _ => (0 : Int32)))), ((a 14), .inl (cI, 2, .inl (fun _ => (0 : Int32)))), ((a 15), .inl (cI, 2, .inl (fun _ => (0 : Int32)))), ((a 16), .inl (cI, 2, .inl (fun _ => (0 : Int32)))), ((a 17), .inl (cI, 8, .inl (fun _ => (0 : Int32)))), ((a 18), .inl (cI, 8, .inl (fun _ => (0 : Int32)))), ((a 19), .inl (cI, 6, .inl (fun _ => (0 : Int32)))), ((a 20), .inl (cI, 42, .inl (fun _ => (0 : Int32)))), ((a 21), .inl (cI, 42, .inl (fun _ => (0 : Int32)))), ((a 23), .inl (cZ, 80, .inl (fun _ => (0 : Int32))))]) (As := []) C X hl.1 (cm_next l D cI cJ cZ cB cO a) [14] [0, 1, 2, 3, 4, 5, 6, 7, 8, 9, 10, 11, 12, 13, 15, 16, 17, 18, 19, 20, 21, 22, 23] ⟨rfl, rfl, by decide, by decide, by decide⟩ (qb := 0) rfl rfl k_26_2 k_26_3 k_26_4 k_1_5 k_26_5 (n := 0) (by decide +kernel) ⟨Nat.le_of_ble_eq_true rfl, Nat.le_of_ble_eq_true rfl⟩ rfl rfl (Nat.le_of_ble_eq_true rfl) dX12_law_62 ⟨Nat.le_of_ble_eq_true rfl, Nat.le_of_ble_eq_true rfl⟩ (fun u_6 H locs w_8 X => ?_)
      have X : Wd D A s [((a 22), .inl (cI, 80, .inl (fun _ => (0 : Int32)))), ((a 24), .inl (cI, 80, .inl (fun _ => (0 : Int32)))), ((a 25), .inl (cI, 80, .inl (fun _ => (0 : Int32)))), ((a 26), .inl (cI, 80, .inl (fun _ => (0 : Int32)))), ((a 27), .inl (cI, 80, .inl (fun _ => (0 : Int32)))), ((a 28), .inl (cI, 80, .inl (fun _ => (0 : Int32)))), ((a 29), .inl (cI, 80, .inl (fun _ => (0 : Int32)))), ((a 30), .inl (cI, 80, .inl (fun _ => (0 : Int32)))), ((a 31), .inl (cI, 2000, .inl (fun _ => (0 : Int32)))), ((a 32), .inl (cI, 2000, .inl (fun _ => (0 : Int32)))), ((a 33), .inl (cI, 2000, .inl (fun _ => (0 : Int32)))), ((a 34), .inl (cI, 2000, .inl (fun _ => (0 : Int32)))), ((a 13), .inl (cI, 3, .inl (fun _ => (0 : Int32)))), ((a 35), .inl (cB, 700, .inl (fun _ => (0 : Int32)))), ((a 14), .inl (cI, 2, .inl (fun _ => (0 : Int32)))), ((a 15), .inl (cI, 2, .inl (fun _ => (0 : Int32)))), ((a 16), .inl (cI, 2, .inl (fun _ => (0 : Int32)))), ((a 17), .inl (cI, 8, .inl (fun _ => (0 : Int32)))), ((a 18), .inl (cI, 8, .inl (fun _ => (0 : Int32)))), ((a 19), .inl (cI, 6, .inl (fun _ => (0 : Int32)))), ((a 20), .inl (cI, 42, .inl (fun _ => (0 : Int32)))), ((a 21), .inl (cI, 42, .inl (fun _ => (0 : Int32)))), ((a 23), .inl (cZ, 80, .inl (fun _ => (0 : Int32)))), ((a 0), .inr (12, (((mF a)).set 31 (.int (1000 : Int32))).set 44 (.long (-1 : Int64))))] H locs := X
      refine W.widen (k := 0) (n := 0) (Nat.le_of_ble_eq_true rfl) (Nat.le_of_ble_eq_true rfl) ?_
      refine lv_aload_n hx hb dX12_law_65 rfl (lv_at hl 0 rfl) ?_
      refine x_get (own := RX12) (T := TX12) C X 23 rfl rfl 42 (by decide) k_25_21 rfl rfl (v := .int (0 : Int32)) rfl dX12_law_66 ?_
      refine lv_if_eq (tgt := 86) hx hb dX12_law_69 (by decide) (fun _ => ?_) (fun c0 => absurd (by decide) c0)
      refine lv_aload_n hx hb dX12_law_86 rfl (lv_at hl 0 rfl) ?_
      refine x_get (own := RX12) (T := TX12) C X 23 rfl rfl 45 (by decide) k_25_19 rfl rfl (v := .int (0 : Int32)) rfl dX12_law_87 ?_
      refine lv_if_eq (tgt := 99) hx hb dX12_law_90 (by decide) (fun _ => ?_) (fun c0 => absurd (by decide) c0)
      refine lv_aload_n hx hb dX12_law_99 rfl (lv_at hl 0 rfl) ?_
      refine x_cVv (own := RX12) (wr := [((a 13), .inl (cI, 3, .inl (fun _ => (0 : Int32)))), ((a 35), .inl (cB, 700, .inl (fun _ => (0 : Int32))))]) (As := []) C X hl.1 (cm_takes l D cI cJ cZ cB cO a) [23, 14, 15, 16, 17, 18, 19, 20, 21, 22, 0, 1, 2, 3, 4, 5, 6, 7, 8, 9, 10, 11] [12, 13] ⟨rfl, rfl, by decide, by decide, by decide⟩ (qb := 0) rfl rfl k_29_21 k_29_22 k_29_23 k_1_5 k_30_0 (n := 0) (by decide +kernel) ⟨Nat.le_of_ble_eq_true rfl, Nat.le_of_ble_eq_true rfl⟩ rfl rfl (Nat.le_of_ble_eq_true rfl) dX12_law_100 ⟨Nat.le_of_ble_eq_true rfl, Nat.le_of_ble_eq_true rfl⟩ (fun u_9 H locs w_11 X => ?_)
      have X : Wd D A s [((a 13), .inl (cI, 3, .inl (fun _ => (0 : Int32)))), ((a 35), .inl (cB, 700, .inl (fun _ => (0 : Int32)))), ((a 0), .inr (12, (((mF a)).set 31 (.int (1000 : Int32))).set 44 (.long (-1 : Int64)))), ((a 14), .inl (cI, 2, .inl (fun _ => (0 : Int32))))] H locs := X
      refine W.widen (k := 0) (n := 0) (Nat.le_of_ble_eq_true rfl) (Nat.le_of_ble_eq_true rfl) ?_
      refine lv_aload_n hx hb dX12_law_103 rfl (lv_at hl 0 rfl) ?_
      refine x_get (own := RX12) (T := TX12) C X 2 rfl rfl 14 (by decide) k_10_6 rfl rfl (v := .ref (a 14)) rfl dX12_law_104 ?_
      refine lv_iconst (v := (0 : Int32)) hx hb dX12_law_107 (by decide) ?_
      refine x_iald C X 3 0 rfl rfl (j := 0) rfl (vp_in_nI (n := 0) (by omega) (by omega)) (v := (0 : Int32)) (rfl) dX12_law_108 ?_
      exact x_iret C X hr hlk (v := (0 : Int32)) (by first | rfl | decide) (()) [] (by decide) rfl (Or.inl (⟨rfl, by omega⟩)) (Nat.le_of_ble_eq_true rfl) (Nat.le_of_ble_eq_true rfl) dX12_law_109
    · have fc_2 : (0 : Int) < (p1).toInt := i_nle c_2
      refine lv_aload_n hx hb dX12_law_12 rfl (lv_at hl 0 rfl) ?_
      refine x_get (own := RX12) (T := TX12) C X 0 rfl rfl 13 (by decide) k_10_5 rfl rfl (v := .ref (a 13)) rfl dX12_law_13 ?_
      refine lv_iconst (v := (0 : Int32)) hx hb dX12_law_16 (by decide) ?_
      refine lv_dup2_11 hx hb dX12_law_17 rfl rfl ?_
      refine x_iald C X 22 0 rfl rfl (j := 0) rfl (vp_in_nI (n := 0) (by omega) (by omega)) (v := (0 : Int32)) (rfl) dX12_law_18 ?_
      refine lv_iconst (v := (1 : Int32)) hx hb dX12_law_19 (by decide) ?_
      refine lv_iadd hx hb dX12_law_20 ?_
      refine x_eqi (show (0 : Int32) + (1 : Int32) = (1 : Int32) from by decide +kernel) ?_
      refine x_iast C X 22 0 rfl rfl (j := 0) rfl (vp_in_nI (n := 0) (by omega) (by omega)) dX12_law_21 (fun H locs X => ?_)
      have X : Wd D A s [((a 0), .inr (12, (mF a))), ((a 14), .inl (cI, 2, .inl (fun _ => (0 : Int32)))), ((a 15), .inl (cI, 2, .inl (fun _ => (0 : Int32)))), ((a 16), .inl (cI, 2, .inl (fun _ => (0 : Int32)))), ((a 17), .inl (cI, 8, .inl (fun _ => (0 : Int32)))), ((a 18), .inl (cI, 8, .inl (fun _ => (0 : Int32)))), ((a 19), .inl (cI, 6, .inl (fun _ => (0 : Int32)))), ((a 20), .inl (cI, 42, .inl (fun _ => (0 : Int32)))), ((a 21), .inl (cI, 42, .inl (fun _ => (0 : Int32)))), ((a 23), .inl (cZ, 80, .inl (fun _ => (0 : Int32)))), ((a 22), .inl (cI, 80, .inl (fun _ => (0 : Int32)))), ((a 24), .inl (cI, 80, .inl (fun _ => (0 : Int32)))), ((a 25), .inl (cI, 80, .inl (fun _ => (0 : Int32)))), ((a 26), .inl (cI, 80, .inl (fun _ => (0 : Int32)))), ((a 27), .inl (cI, 80, .inl (fun _ => (0 : Int32)))), ((a 28), .inl (cI, 80, .inl (fun _ => (0 : Int32)))), ((a 29), .inl (cI, 80, .inl (fun _ => (0 : Int32)))), ((a 30), .inl (cI, 80, .inl (fun _ => (0 : Int32)))), ((a 31), .inl (cI, 2000, .inl (fun _ => (0 : Int32)))), ((a 32), .inl (cI, 2000, .inl (fun _ => (0 : Int32)))), ((a 33), .inl (cI, 2000, .inl (fun _ => (0 : Int32)))), ((a 34), .inl (cI, 2000, .inl (fun _ => (0 : Int32)))), ((a 13), .inl (cI, 3, .inl (upd (fun _ => (0 : Int32)) (0) ((1 : Int32))))), ((a 35), .inl (cB, 700, .inl (fun _ => (0 : Int32))))] H locs := X
      refine lv_bipush (v := (-2 : Int32)) hx hb dX12_law_22 (by decide) ?_
      exact x_iret C X hr hlk (v := (-2 : Int32)) (by first | rfl | decide) (()) [] (by decide) rfl (Or.inr (⟨rfl, by omega⟩)) (Nat.le_of_ble_eq_true rfl) (Nat.le_of_ble_eq_true rfl) dX12_law_24
