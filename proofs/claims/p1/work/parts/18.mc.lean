theorem k_18_11 : Cond.fieldLink RX12 206 "LuckLinksModel" "taped" "I" ∈ wsL_law := mr_18 _ (List.mem_of_getElem? (i := 11) rfl)
theorem k_31_2 : Cond.methodLink RX12 346 yX12_weightOf ∈ wsL_law := mr_31 _ (List.mem_of_getElem? (i := 2) rfl)
theorem k_31_3 : Cond.instanceMethod yX12_weightOf ∈ wsL_law := mr_31 _ (List.mem_of_getElem? (i := 3) rfl)
theorem k_31_4 : Cond.selects RX12 yX12_weightOf yX12_weightOf ∈ wsL_law := mr_31 _ (List.mem_of_getElem? (i := 4) rfl)
theorem k_31_5 : Cond.code yX12_weightOf cX12_weightOf 3 (some .int) ∈ wsL_law := mr_31 _ (List.mem_of_getElem? (i := 5) rfl)
theorem k_66_16 : Cond.fieldLink RX12 171 "LuckLinksModel" "images" "I" ∈ wsL_law := mr_66 _ (List.mem_of_getElem? (i := 16) rfl)
theorem dX12_count_0 : decode cX12_count 0 = .ok (.iload_n 1, 1) := by decide +kernel
theorem dX12_count_1 : decode cX12_count 1 = .ok (.bipush 10, 2) := by decide +kernel
theorem dX12_count_3 : decode cX12_count 3 = .ok (.bipush 49, 2) := by decide +kernel
theorem dX12_count_5 : decode cX12_count 5 = .ok (.invokestatic 182, 3) := by decide +kernel
theorem dX12_count_8 : decode cX12_count 8 = .ok (.ifCond .eq 13, 3) := by decide +kernel
theorem dX12_count_11 : decode cX12_count 11 = .ok (.aload_n 0, 1) := by decide +kernel
theorem dX12_count_12 : decode cX12_count 12 = .ok (.getfield 29, 3) := by decide +kernel
theorem dX12_count_15 : decode cX12_count 15 = .ok (.iload_n 1, 1) := by decide +kernel
theorem dX12_count_16 : decode cX12_count 16 = .ok (.bipush 10, 2) := by decide +kernel
theorem dX12_count_18 : decode cX12_count 18 = .ok (.isub, 1) := by decide +kernel
theorem dX12_count_19 : decode cX12_count 19 = .ok (.iaload, 1) := by decide +kernel
theorem dX12_count_20 : decode cX12_count 20 = .ok (.ireturn, 1) := by decide +kernel
theorem dX12_count_21 : decode cX12_count 21 = .ok (.iload_n 1, 1) := by decide +kernel
theorem dX12_count_22 : decode cX12_count 22 = .ok (.tableswitch 98 0 7 #[46, 53, 60, 67, 72, 77, 84, 91], 46) := by decide +kernel
theorem dX12_count_68 : decode cX12_count 68 = .ok (.aload_n 0, 1) := by decide +kernel
theorem dX12_count_69 : decode cX12_count 69 = .ok (.getfield 7, 3) := by decide +kernel
theorem dX12_count_72 : decode cX12_count 72 = .ok (.iconst 0, 1) := by decide +kernel
theorem dX12_count_73 : decode cX12_count 73 = .ok (.iaload, 1) := by decide +kernel
theorem dX12_count_74 : decode cX12_count 74 = .ok (.ireturn, 1) := by decide +kernel
theorem dX12_count_75 : decode cX12_count 75 = .ok (.aload_n 0, 1) := by decide +kernel
theorem dX12_count_76 : decode cX12_count 76 = .ok (.getfield 13, 3) := by decide +kernel
theorem dX12_count_79 : decode cX12_count 79 = .ok (.iconst 0, 1) := by decide +kernel
theorem dX12_count_80 : decode cX12_count 80 = .ok (.iaload, 1) := by decide +kernel
theorem dX12_count_81 : decode cX12_count 81 = .ok (.ireturn, 1) := by decide +kernel
theorem dX12_count_82 : decode cX12_count 82 = .ok (.aload_n 0, 1) := by decide +kernel
theorem dX12_count_83 : decode cX12_count 83 = .ok (.getfield 16, 3) := by decide +kernel
theorem dX12_count_86 : decode cX12_count 86 = .ok (.iconst 0, 1) := by decide +kernel
theorem dX12_count_87 : decode cX12_count 87 = .ok (.iaload, 1) := by decide +kernel
theorem dX12_count_88 : decode cX12_count 88 = .ok (.ireturn, 1) := by decide +kernel
theorem dX12_count_89 : decode cX12_count 89 = .ok (.aload_n 0, 1) := by decide +kernel
theorem dX12_count_90 : decode cX12_count 90 = .ok (.getfield 206, 3) := by decide +kernel
theorem dX12_count_93 : decode cX12_count 93 = .ok (.ireturn, 1) := by decide +kernel
theorem dX12_count_94 : decode cX12_count 94 = .ok (.aload_n 0, 1) := by decide +kernel
theorem dX12_count_95 : decode cX12_count 95 = .ok (.getfield 171, 3) := by decide +kernel
theorem dX12_count_98 : decode cX12_count 98 = .ok (.ireturn, 1) := by decide +kernel
theorem dX12_count_99 : decode cX12_count 99 = .ok (.aload_n 0, 1) := by decide +kernel
theorem dX12_count_100 : decode cX12_count 100 = .ok (.getfield 49, 3) := by decide +kernel
theorem dX12_count_103 : decode cX12_count 103 = .ok (.iconst 0, 1) := by decide +kernel
theorem dX12_count_104 : decode cX12_count 104 = .ok (.iaload, 1) := by decide +kernel
theorem dX12_count_105 : decode cX12_count 105 = .ok (.ireturn, 1) := by decide +kernel
theorem dX12_count_106 : decode cX12_count 106 = .ok (.aload_n 0, 1) := by decide +kernel
theorem dX12_count_107 : decode cX12_count 107 = .ok (.getfield 49, 3) := by decide +kernel
theorem dX12_count_110 : decode cX12_count 110 = .ok (.iconst 1, 1) := by decide +kernel
theorem dX12_count_111 : decode cX12_count 111 = .ok (.iaload, 1) := by decide +kernel
theorem dX12_count_112 : decode cX12_count 112 = .ok (.ireturn, 1) := by decide +kernel
theorem dX12_count_113 : decode cX12_count 113 = .ok (.aload_n 0, 1) := by decide +kernel
theorem dX12_count_114 : decode cX12_count 114 = .ok (.getfield 49, 3) := by decide +kernel
theorem dX12_count_117 : decode cX12_count 117 = .ok (.iconst 2, 1) := by decide +kernel
theorem dX12_count_118 : decode cX12_count 118 = .ok (.iaload, 1) := by decide +kernel
theorem dX12_count_119 : decode cX12_count 119 = .ok (.ireturn, 1) := by decide +kernel
theorem dX12_count_120 : decode cX12_count 120 = .ok (.iconst (-1), 1) := by decide +kernel
theorem dX12_count_121 : decode cX12_count 121 = .ok (.ireturn, 1) := by decide +kernel
theorem dX12_feed_0 : decode cX12_feed 0 = .ok (.aload_n 0, 1) := by decide +kernel
theorem dX12_feed_1 : decode cX12_feed 1 = .ok (.getfield 206, 3) := by decide +kernel
theorem dX12_feed_4 : decode cX12_feed 4 = .ok (.bipush 20, 2) := by decide +kernel
theorem dX12_feed_6 : decode cX12_feed 6 = .ok (.iadd, 1) := by decide +kernel
theorem dX12_feed_7 : decode cX12_feed 7 = .ok (.sipush 700, 3) := by decide +kernel
theorem dX12_feed_10 : decode cX12_feed 10 = .ok (.if_icmp .le 5, 3) := by decide +kernel
theorem dX12_feed_15 : decode cX12_feed 15 = .ok (.iconst 0, 1) := by decide +kernel
theorem dX12_feed_16 : decode cX12_feed 16 = .ok (.istore 6, 2) := by decide +kernel
theorem dX12_feed_18 : decode cX12_feed 18 = .ok (.iload 6, 2) := by decide +kernel
theorem dX12_feed_20 : decode cX12_feed 20 = .ok (.bipush 20, 2) := by decide +kernel
theorem dX12_feed_22 : decode cX12_feed 22 = .ok (.if_icmp .ge 90, 3) := by decide +kernel
theorem dX12_feed_25 : decode cX12_feed 25 = .ok (.iload 6, 2) := by decide +kernel
theorem dX12_feed_27 : decode cX12_feed 27 = .ok (.iconst 4, 1) := by decide +kernel
theorem dX12_feed_28 : decode cX12_feed 28 = .ok (.if_icmp .ge 7, 3) := by decide +kernel
theorem dX12_feed_31 : decode cX12_feed 31 = .ok (.iload_n 1, 1) := by decide +kernel
theorem dX12_feed_32 : decode cX12_feed 32 = .ok (.goto 39, 3) := by decide +kernel
theorem dX12_feed_35 : decode cX12_feed 35 = .ok (.iload 6, 2) := by decide +kernel
theorem dX12_feed_37 : decode cX12_feed 37 = .ok (.bipush 8, 2) := by decide +kernel
theorem dX12_feed_39 : decode cX12_feed 39 = .ok (.if_icmp .ge 7, 3) := by decide +kernel
theorem dX12_feed_42 : decode cX12_feed 42 = .ok (.iload_n 2, 1) := by decide +kernel
theorem dX12_feed_43 : decode cX12_feed 43 = .ok (.goto 28, 3) := by decide +kernel
theorem dX12_feed_46 : decode cX12_feed 46 = .ok (.iload 6, 2) := by decide +kernel
theorem dX12_feed_48 : decode cX12_feed 48 = .ok (.bipush 12, 2) := by decide +kernel
theorem dX12_feed_50 : decode cX12_feed 50 = .ok (.if_icmp .ge 7, 3) := by decide +kernel
theorem dX12_feed_53 : decode cX12_feed 53 = .ok (.iload_n 3, 1) := by decide +kernel
theorem dX12_feed_54 : decode cX12_feed 54 = .ok (.goto 17, 3) := by decide +kernel
theorem dX12_feed_57 : decode cX12_feed 57 = .ok (.iload 6, 2) := by decide +kernel
theorem dX12_feed_59 : decode cX12_feed 59 = .ok (.bipush 16, 2) := by decide +kernel
theorem dX12_feed_61 : decode cX12_feed 61 = .ok (.if_icmp .ge 8, 3) := by decide +kernel
theorem dX12_feed_64 : decode cX12_feed 64 = .ok (.iload 4, 2) := by decide +kernel
theorem dX12_feed_66 : decode cX12_feed 66 = .ok (.goto 5, 3) := by decide +kernel
theorem dX12_feed_69 : decode cX12_feed 69 = .ok (.iload 5, 2) := by decide +kernel
theorem dX12_feed_71 : decode cX12_feed 71 = .ok (.istore 7, 2) := by decide +kernel
theorem dX12_feed_73 : decode cX12_feed 73 = .ok (.aload_n 0, 1) := by decide +kernel
theorem dX12_feed_74 : decode cX12_feed 74 = .ok (.getfield 115, 3) := by decide +kernel
theorem dX12_feed_77 : decode cX12_feed 77 = .ok (.aload_n 0, 1) := by decide +kernel
theorem dX12_feed_78 : decode cX12_feed 78 = .ok (.getfield 206, 3) := by decide +kernel
theorem dX12_feed_81 : decode cX12_feed 81 = .ok (.iload 7, 2) := by decide +kernel
theorem dX12_feed_83 : decode cX12_feed 83 = .ok (.bipush 24, 2) := by decide +kernel
theorem dX12_feed_85 : decode cX12_feed 85 = .ok (.bipush 8, 2) := by decide +kernel
theorem dX12_feed_87 : decode cX12_feed 87 = .ok (.iload 6, 2) := by decide +kernel
theorem dX12_feed_89 : decode cX12_feed 89 = .ok (.iconst 4, 1) := by decide +kernel
theorem dX12_feed_90 : decode cX12_feed 90 = .ok (.irem, 1) := by decide +kernel
theorem dX12_feed_91 : decode cX12_feed 91 = .ok (.imul, 1) := by decide +kernel
theorem dX12_feed_92 : decode cX12_feed 92 = .ok (.isub, 1) := by decide +kernel
theorem dX12_feed_93 : decode cX12_feed 93 = .ok (.ishr, 1) := by decide +kernel
theorem dX12_feed_94 : decode cX12_feed 94 = .ok (.i2b, 1) := by decide +kernel
theorem dX12_feed_95 : decode cX12_feed 95 = .ok (.bastore, 1) := by decide +kernel
theorem dX12_feed_96 : decode cX12_feed 96 = .ok (.aload_n 0, 1) := by decide +kernel
theorem dX12_feed_97 : decode cX12_feed 97 = .ok (.dup, 1) := by decide +kernel
theorem dX12_feed_98 : decode cX12_feed 98 = .ok (.getfield 206, 3) := by decide +kernel
theorem dX12_feed_101 : decode cX12_feed 101 = .ok (.iconst 1, 1) := by decide +kernel
theorem dX12_feed_102 : decode cX12_feed 102 = .ok (.iadd, 1) := by decide +kernel
theorem dX12_feed_103 : decode cX12_feed 103 = .ok (.putfield 206, 3) := by decide +kernel
theorem dX12_feed_106 : decode cX12_feed 106 = .ok (.iinc 6 1, 3) := by decide +kernel
theorem dX12_feed_109 : decode cX12_feed 109 = .ok (.goto (-91), 3) := by decide +kernel
theorem dX12_feed_112 : decode cX12_feed 112 = .ok (.aload_n 0, 1) := by decide +kernel
theorem dX12_feed_113 : decode cX12_feed 113 = .ok (.getfield 206, 3) := by decide +kernel
theorem dX12_feed_116 : decode cX12_feed 116 = .ok (.ireturn, 1) := by decide +kernel
theorem dX12_restore_0 : decode cX12_restore 0 = .ok (.iload_n 1, 1) := by decide +kernel
theorem dX12_restore_1 : decode cX12_restore 1 = .ok (.iconst 0, 1) := by decide +kernel
theorem dX12_restore_2 : decode cX12_restore 2 = .ok (.aload_n 0, 1) := by decide +kernel
theorem dX12_restore_3 : decode cX12_restore 3 = .ok (.getfield 171, 3) := by decide +kernel
theorem dX12_restore_6 : decode cX12_restore 6 = .ok (.iconst 1, 1) := by decide +kernel
theorem dX12_restore_7 : decode cX12_restore 7 = .ok (.isub, 1) := by decide +kernel
theorem dX12_restore_8 : decode cX12_restore 8 = .ok (.invokestatic 182, 3) := by decide +kernel
theorem dX12_restore_11 : decode cX12_restore 11 = .ok (.ifCond .ne 8, 3) := by decide +kernel
theorem dX12_restore_14 : decode cX12_restore 14 = .ok (.aload_n 0, 1) := by decide +kernel
theorem dX12_restore_15 : decode cX12_restore 15 = .ok (.invokevirtual 186, 3) := by decide +kernel
theorem dX12_restore_18 : decode cX12_restore 18 = .ok (.ireturn, 1) := by decide +kernel
theorem dX12_rule_0 : decode cX12_rule 0 = .ok (.iload_n 1, 1) := by decide +kernel
theorem dX12_rule_1 : decode cX12_rule 1 = .ok (.iconst 0, 1) := by decide +kernel
theorem dX12_rule_2 : decode cX12_rule 2 = .ok (.iconst 3, 1) := by decide +kernel
theorem dX12_rule_3 : decode cX12_rule 3 = .ok (.invokestatic 182, 3) := by decide +kernel
theorem dX12_rule_6 : decode cX12_rule 6 = .ok (.ifCond .eq 10, 3) := by decide +kernel
theorem dX12_rule_9 : decode cX12_rule 9 = .ok (.aload_n 0, 1) := by decide +kernel
theorem dX12_rule_10 : decode cX12_rule 10 = .ok (.getfield 61, 3) := by decide +kernel
theorem dX12_rule_13 : decode cX12_rule 13 = .ok (.iload_n 1, 1) := by decide +kernel
theorem dX12_rule_14 : decode cX12_rule 14 = .ok (.iaload, 1) := by decide +kernel
theorem dX12_rule_15 : decode cX12_rule 15 = .ok (.ireturn, 1) := by decide +kernel
theorem dX12_rule_16 : decode cX12_rule 16 = .ok (.iload_n 1, 1) := by decide +kernel
theorem dX12_rule_17 : decode cX12_rule 17 = .ok (.bipush 10, 2) := by decide +kernel
theorem dX12_rule_19 : decode cX12_rule 19 = .ok (.bipush 13, 2) := by decide +kernel
theorem dX12_rule_21 : decode cX12_rule 21 = .ok (.invokestatic 182, 3) := by decide +kernel
theorem dX12_rule_24 : decode cX12_rule 24 = .ok (.ifCond .eq 13, 3) := by decide +kernel
theorem dX12_rule_27 : decode cX12_rule 27 = .ok (.aload_n 0, 1) := by decide +kernel
theorem dX12_rule_28 : decode cX12_rule 28 = .ok (.getfield 64, 3) := by decide +kernel
theorem dX12_rule_31 : decode cX12_rule 31 = .ok (.iload_n 1, 1) := by decide +kernel
theorem dX12_rule_32 : decode cX12_rule 32 = .ok (.bipush 10, 2) := by decide +kernel
theorem dX12_rule_34 : decode cX12_rule 34 = .ok (.isub, 1) := by decide +kernel
theorem dX12_rule_35 : decode cX12_rule 35 = .ok (.iaload, 1) := by decide +kernel
theorem dX12_rule_36 : decode cX12_rule 36 = .ok (.ireturn, 1) := by decide +kernel
theorem dX12_rule_37 : decode cX12_rule 37 = .ok (.iload_n 1, 1) := by decide +kernel
theorem dX12_rule_38 : decode cX12_rule 38 = .ok (.bipush 20, 2) := by decide +kernel
theorem dX12_rule_40 : decode cX12_rule 40 = .ok (.bipush 22, 2) := by decide +kernel
theorem dX12_rule_42 : decode cX12_rule 42 = .ok (.invokestatic 182, 3) := by decide +kernel
theorem dX12_rule_45 : decode cX12_rule 45 = .ok (.ifCond .eq 13, 3) := by decide +kernel
theorem dX12_rule_48 : decode cX12_rule 48 = .ok (.aload_n 0, 1) := by decide +kernel
theorem dX12_rule_49 : decode cX12_rule 49 = .ok (.getfield 67, 3) := by decide +kernel
theorem dX12_rule_52 : decode cX12_rule 52 = .ok (.iload_n 1, 1) := by decide +kernel
theorem dX12_rule_53 : decode cX12_rule 53 = .ok (.bipush 20, 2) := by decide +kernel
theorem dX12_rule_55 : decode cX12_rule 55 = .ok (.isub, 1) := by decide +kernel
theorem dX12_rule_56 : decode cX12_rule 56 = .ok (.iaload, 1) := by decide +kernel
theorem dX12_rule_57 : decode cX12_rule 57 = .ok (.ireturn, 1) := by decide +kernel
theorem dX12_rule_58 : decode cX12_rule 58 = .ok (.iload_n 1, 1) := by decide +kernel
theorem dX12_rule_59 : decode cX12_rule 59 = .ok (.bipush 31, 2) := by decide +kernel
theorem dX12_rule_61 : decode cX12_rule 61 = .ok (.bipush 50, 2) := by decide +kernel
theorem dX12_rule_63 : decode cX12_rule 63 = .ok (.invokestatic 182, 3) := by decide +kernel
theorem dX12_rule_66 : decode cX12_rule 66 = .ok (.ifCond .eq 13, 3) := by decide +kernel
theorem dX12_rule_69 : decode cX12_rule 69 = .ok (.aload_n 0, 1) := by decide +kernel
theorem dX12_rule_70 : decode cX12_rule 70 = .ok (.getfield 70, 3) := by decide +kernel
theorem dX12_rule_73 : decode cX12_rule 73 = .ok (.iload_n 1, 1) := by decide +kernel
theorem dX12_rule_74 : decode cX12_rule 74 = .ok (.bipush 30, 2) := by decide +kernel
theorem dX12_rule_76 : decode cX12_rule 76 = .ok (.isub, 1) := by decide +kernel
theorem dX12_rule_77 : decode cX12_rule 77 = .ok (.iaload, 1) := by decide +kernel
theorem dX12_rule_78 : decode cX12_rule 78 = .ok (.ireturn, 1) := by decide +kernel
theorem dX12_rule_79 : decode cX12_rule 79 = .ok (.iload_n 1, 1) := by decide +kernel
theorem dX12_rule_80 : decode cX12_rule 80 = .ok (.bipush 61, 2) := by decide +kernel
theorem dX12_rule_82 : decode cX12_rule 82 = .ok (.bipush 80, 2) := by decide +kernel
theorem dX12_rule_84 : decode cX12_rule 84 = .ok (.invokestatic 182, 3) := by decide +kernel
theorem dX12_rule_87 : decode cX12_rule 87 = .ok (.ifCond .eq 13, 3) := by decide +kernel
theorem dX12_rule_90 : decode cX12_rule 90 = .ok (.aload_n 0, 1) := by decide +kernel
theorem dX12_rule_91 : decode cX12_rule 91 = .ok (.getfield 73, 3) := by decide +kernel
theorem dX12_rule_94 : decode cX12_rule 94 = .ok (.iload_n 1, 1) := by decide +kernel
theorem dX12_rule_95 : decode cX12_rule 95 = .ok (.bipush 60, 2) := by decide +kernel
theorem dX12_rule_97 : decode cX12_rule 97 = .ok (.isub, 1) := by decide +kernel
theorem dX12_rule_98 : decode cX12_rule 98 = .ok (.iaload, 1) := by decide +kernel
theorem dX12_rule_99 : decode cX12_rule 99 = .ok (.ireturn, 1) := by decide +kernel
theorem dX12_rule_100 : decode cX12_rule 100 = .ok (.iload_n 1, 1) := by decide +kernel
theorem dX12_rule_101 : decode cX12_rule 101 = .ok (.bipush 100, 2) := by decide +kernel
theorem dX12_rule_103 : decode cX12_rule 103 = .ok (.sipush 139, 3) := by decide +kernel
theorem dX12_rule_106 : decode cX12_rule 106 = .ok (.invokestatic 182, 3) := by decide +kernel
theorem dX12_rule_109 : decode cX12_rule 109 = .ok (.ifCond .eq 12, 3) := by decide +kernel
theorem dX12_rule_112 : decode cX12_rule 112 = .ok (.aload_n 0, 1) := by decide +kernel
theorem dX12_rule_113 : decode cX12_rule 113 = .ok (.iload_n 1, 1) := by decide +kernel
theorem dX12_rule_114 : decode cX12_rule 114 = .ok (.bipush 100, 2) := by decide +kernel
theorem dX12_rule_116 : decode cX12_rule 116 = .ok (.isub, 1) := by decide +kernel
theorem dX12_rule_117 : decode cX12_rule 117 = .ok (.invokevirtual 346, 3) := by decide +kernel
theorem dX12_rule_120 : decode cX12_rule 120 = .ok (.ireturn, 1) := by decide +kernel
theorem dX12_rule_121 : decode cX12_rule 121 = .ok (.iload_n 1, 1) := by decide +kernel
theorem dX12_rule_122 : decode cX12_rule 122 = .ok (.sipush 200, 3) := by decide +kernel
theorem dX12_rule_125 : decode cX12_rule 125 = .ok (.if_icmp .ne 12, 3) := by decide +kernel
theorem dX12_rule_128 : decode cX12_rule 128 = .ok (.aload_n 0, 1) := by decide +kernel
theorem dX12_rule_129 : decode cX12_rule 129 = .ok (.getfield 52, 3) := by decide +kernel
theorem dX12_rule_132 : decode cX12_rule 132 = .ok (.iconst 0, 1) := by decide +kernel
theorem dX12_rule_133 : decode cX12_rule 133 = .ok (.iaload, 1) := by decide +kernel
theorem dX12_rule_134 : decode cX12_rule 134 = .ok (.goto 4, 3) := by decide +kernel
theorem dX12_rule_137 : decode cX12_rule 137 = .ok (.iconst (-1), 1) := by decide +kernel
theorem dX12_rule_138 : decode cX12_rule 138 = .ok (.ireturn, 1) := by decide +kernel
theorem dX12_weightOf_0 : decode cX12_weightOf 0 = .ok (.iload_n 1, 1) := by decide +kernel
theorem dX12_weightOf_1 : decode cX12_weightOf 1 = .ok (.istore_n 2, 1) := by decide +kernel
theorem dX12_weightOf_2 : decode cX12_weightOf 2 = .ok (.iload_n 2, 1) := by decide +kernel
theorem dX12_weightOf_3 : decode cX12_weightOf 3 = .ok (.ifCond .lt 25, 3) := by decide +kernel
theorem dX12_weightOf_6 : decode cX12_weightOf 6 = .ok (.aload_n 0, 1) := by decide +kernel
theorem dX12_weightOf_7 : decode cX12_weightOf 7 = .ok (.getfield 79, 3) := by decide +kernel
theorem dX12_weightOf_10 : decode cX12_weightOf 10 = .ok (.iload_n 2, 1) := by decide +kernel
theorem dX12_weightOf_11 : decode cX12_weightOf 11 = .ok (.baload, 1) := by decide +kernel
theorem dX12_weightOf_12 : decode cX12_weightOf 12 = .ok (.ifCond .eq 10, 3) := by decide +kernel
theorem dX12_weightOf_22 : decode cX12_weightOf 22 = .ok (.iinc 2 (-1), 3) := by decide +kernel
theorem dX12_weightOf_25 : decode cX12_weightOf 25 = .ok (.goto (-23), 3) := by decide +kernel
theorem dX12_weightOf_28 : decode cX12_weightOf 28 = .ok (.iconst 1, 1) := by decide +kernel
theorem dX12_weightOf_29 : decode cX12_weightOf 29 = .ok (.ireturn, 1) := by decide +kernel
set_option maxHeartbeats 4000000 in
set_option maxRecDepth 100000 in
theorem cm_weightOf (l : Launch) (D : va_G) (cI cJ cZ cB : ClassId) (cO : ClassId) (a : Nat → Nat) (v : Int32) (g0 : 0 ≤ v.toInt) (g1 : v.toInt < 40) :
    CI l D [(cI, .int), (cJ, .long), (cZ, .boolean), (cB, .byte), (cO, .object "LuckLinks$World")] yX12_weightOf cX12_weightOf 3 (some .int) ({ frames := 0, cells := 0, slots := 0, locals := 0 } : Room) [.ref (a 0), .int v] [((a 0), .inr (12, (mF a))), ((a 23), .inl (cZ, 80, .inl (fun _ => (0 : Int32)))), ((a 22), .inl (cI, 80, .inl (fun _ => (0 : Int32))))] (fun (r : Int32) (u : Unit) => (r = (1 : Int32) ∧ True)) (fun (_ : Unit) => []) := by
  intro sz
  refine body_of (y := yX12_weightOf) (cc := cX12_weightOf) (maxL := 3) (ret := (some .int)) (rm := ({ frames := 0, cells := 0, slots := 0, locals := 0 } : Room)) (wc := [((a 0), .inr (12, (mF a))), ((a 23), .inl (cZ, 80, .inl (fun _ => (0 : Int32)))), ((a 22), .inl (cI, 80, .inl (fun _ => (0 : Int32))))]) (tys := [(cI, .int), (cJ, .long), (cZ, .boolean), (cB, .byte), (cO, .object "LuckLinks$World")]) (D := D) (sz := sz) (own := RX12) (av := [.ref (a 0), .int v]) (Qc := fun A => va_Qi (fun (r : Int32) (u : Unit) => (r = (1 : Int32) ∧ True)) (fun u t => Aft D A ((fun (_ : Unit) => []) u) t) A) (by decide) rfl (Nat.le_of_ble_eq_true rfl) (fun p e s m below meth c A ls C hr hlk hin X hl => ?_)
  have hx := C.1
  have hb := C.2.1
  have hown := C.2.2.2.1
  have hts := C.2.2.2.2.1
  have hl : lv_has ls 3 [(0, .ref (a 0)), (1, .int v)] := hl
  show W p l e _ s m _ below meth c s.heap [] 0 0 (MQ below (va_Qi (fun (r : Int32) (u : Unit) => (r = (1 : Int32) ∧ True)) (fun u t => Aft D A ((fun (_ : Unit) => []) u) t) A) ([.ref (a 0), .int v] : List Value).toArray s 0 0 A) (F0 m 0 ls [])
  have X : Wd D A s [((a 0), .inr (12, (mF a))), ((a 23), .inl (cZ, 80, .inl (fun _ => (0 : Int32)))), ((a 22), .inl (cI, 80, .inl (fun _ => (0 : Int32))))] s.heap [] := X
  obtain ⟨H, locs, eH, eL⟩ : ∃ H locs, H = s.heap ∧ locs = ([] : List Loc) := ⟨_, _, rfl, rfl⟩
  rw [← eH, ← eL] at X ⊢
  clear eH eL
  obtain ⟨kv, hkv, hqkv⟩ := i_ex (x := v) 40 (by omega) (by omega)
  have ekv : v.toInt = (kv : Int) := by rw [hqkv]; exact nI_toInt (by omega)
  rw [hqkv] at hl
  have hl : lv_has ls 3 [(0, .ref (a 0)), (1, .int (nI (kv)))] := hl
  refine lv_iload_n hx hb dX12_weightOf_0 rfl (lv_at hl 1 rfl) ?_
  refine lv_istore_n (lv' := [(2, .int (nI (kv))), (0, .ref (a 0)), (1, .int (nI (kv)))]) hx hb dX12_weightOf_1 rfl hl (by decide) rfl (fun ls hl => ?_)
  have hl : lv_has ls 3 [(2, .int (nI kv - nI 0)), (0, .ref (a 0)), (1, .int (nI (kv)))] := by rw [show nI kv - nI 0 = nI kv from by rw [nI_0]; exact Int32.sub_zero _]; exact hl
  have L2 : ∀ (n : Nat) (j : Nat) (H : Heap) (locs : List Loc) (ls : Array Slot), (h1 : j ≤ kv + 1) → kv + 1 < j + n → Wd D A s [((a 0), .inr (12, (mF a))), ((a 23), .inl (cZ, 80, .inl (fun _ => (0 : Int32)))), ((a 22), .inl (cI, 80, .inl (fun _ => (0 : Int32))))] H locs → lv_has ls 3 [(2, .int (nI kv - nI j)), (0, .ref (a 0)), (1, .int (nI (kv)))] → W p l e ({ frames := 0, cells := 0, slots := 0, locals := 0 } : Room) s m ([.ref (a 0), .int v] : List Value).toArray below meth c H locs 0 0 (MQ below (va_Qi (fun (r : Int32) (u : Unit) => (r = (1 : Int32) ∧ True)) (fun u t => Aft D A ((fun (_ : Unit) => []) u) t) A) ([.ref (a 0), .int v] : List Value).toArray s 0 0 A) (F0 m 2 ls []) := by
    intro n
    induction n with
    | zero => intro j H locs ls h1 hn; exact absurd hn (by omega)
    | succ n ih =>
      intro j H locs ls h1 hn X hl
      have ih2 := ih
      refine lv_iload_n hx hb dX12_weightOf_2 rfl (lv_at hl 0 rfl) ?_
      have ek : (nI kv - nI j).toInt = (kv : Int) - j := pk_sub_toInt (a := kv) (b := j) (by omega) (by omega)
      refine lv_if_lt (tgt := 28) hx hb dX12_weightOf_3 (by decide) (fun c_1 => ?_) (fun c_1 => ?_)
      · have fc_1 : ((nI kv - nI j)).toInt < (0 : Int) := i_lt c_1
        refine lv_iconst (v := (1 : Int32)) hx hb dX12_weightOf_28 (by decide) ?_
        exact x_iret C X hr hlk (v := (1 : Int32)) (by first | rfl | decide) (()) [] (by decide) rfl (⟨rfl, trivial⟩) (Nat.le_of_ble_eq_true rfl) (Nat.le_of_ble_eq_true rfl) dX12_weightOf_29
      · have fc_1 : (0 : Int) ≤ ((nI kv - nI j)).toInt := i_nlt c_1
        refine lv_aload_n hx hb dX12_weightOf_6 rfl (lv_at hl 1 rfl) ?_
        refine x_get (own := RX12) (T := TX12) C X 0 rfl rfl 23 (by decide) k_10_15 rfl rfl (v := .ref (a 23)) rfl dX12_weightOf_7 ?_
        refine lv_iload_n hx hb dX12_weightOf_10 rfl (lv_at hl 0 rfl) ?_
        refine x_zald C X 1 2 rfl rfl (j := (nI kv - nI j).toInt.toNat) rfl (vp_in_iff.mpr (by have e9 := pk_sub_toInt (a := kv) (b := j) (by omega) (by omega); omega)) (v := (0 : Int32)) (rfl) dX12_weightOf_11 ?_
        refine lv_if_eq (tgt := 22) hx hb dX12_weightOf_12 (by decide) (fun _ => ?_) (fun c0 => absurd (by decide) c0)
        refine lv_iinc (v := (nI kv - nI (j + 1))) (lv' := [(2, .int (nI kv - nI (j + 1))), (0, .ref (a 0)), (1, .int (nI (kv)))]) hx hb dX12_weightOf_22 hl (k := 0) rfl (i_down (by omega) (by omega)) (by decide) rfl (fun ls hl => ?_)
        refine lv_goto (tgt := 2) hx hb dX12_weightOf_25 (by decide) ?_
        exact ih2  ((j + 1)) H locs ls (by omega) (by omega) (x_sub X [0, 1, 2] (by decide) rfl) (lv_sub hl [0, 1, 2] rfl)
  exact L2 (kv + 1 + 1) (0) H locs ls (by omega) (by omega) (x_sub X [0, 1, 2] (by decide) rfl) (lv_sub hl [0, 1, 2] rfl)
set_option maxHeartbeats 4000000 in
set_option maxRecDepth 100000 in
theorem cm_rule (l : Launch) (D : va_G) (cI cJ cZ cB : ClassId) (cO : ClassId) (a : Nat → Nat) (p1 : Int32) :
    CI l D [(cI, .int), (cJ, .long), (cZ, .boolean), (cB, .byte), (cO, .object "LuckLinks$World")] yX12_rule cX12_rule 2 (some .int) ({ frames := 1, cells := 0, slots := 0, locals := 22 } : Room) [.ref (a 0), .int p1] [((a 0), .inr (12, (mF a))), ((a 14), .inl (cI, 2, .inl (fun _ => (0 : Int32)))), ((a 17), .inl (cI, 8, .inl (fun _ => (0 : Int32)))), ((a 18), .inl (cI, 8, .inl (fun _ => (0 : Int32)))), ((a 19), .inl (cI, 6, .inl (fun _ => (0 : Int32)))), ((a 20), .inl (cI, 42, .inl (fun _ => (0 : Int32)))), ((a 21), .inl (cI, 42, .inl (fun _ => (0 : Int32)))), ((a 22), .inl (cI, 80, .inl (fun _ => (0 : Int32)))), ((a 23), .inl (cZ, 80, .inl (fun _ => (0 : Int32))))] (fun (r : Int32) (u : Unit) => (r = (0 : Int32) ∧ (0 ≤ p1.toInt ∧ p1.toInt ≤ 3 ∨ 10 ≤ p1.toInt ∧ p1.toInt ≤ 13 ∨ 20 ≤ p1.toInt ∧ p1.toInt ≤ 22 ∨ 31 ≤ p1.toInt ∧ p1.toInt ≤ 50 ∨ 61 ≤ p1.toInt ∧ p1.toInt ≤ 80 ∨ p1.toInt = 200)) ∨ (r = (1 : Int32) ∧ (100 ≤ p1.toInt ∧ p1.toInt ≤ 139)) ∨ (r = (-1 : Int32) ∧ ¬ (0 ≤ p1.toInt ∧ p1.toInt ≤ 3 ∨ 10 ≤ p1.toInt ∧ p1.toInt ≤ 13 ∨ 20 ≤ p1.toInt ∧ p1.toInt ≤ 22 ∨ 31 ≤ p1.toInt ∧ p1.toInt ≤ 50 ∨ 61 ≤ p1.toInt ∧ p1.toInt ≤ 80 ∨ p1.toInt = 200 ∨ 100 ≤ p1.toInt ∧ p1.toInt ≤ 139))) (fun (_ : Unit) => []) := by
  intro sz
  refine body_of (y := yX12_rule) (cc := cX12_rule) (maxL := 2) (ret := (some .int)) (rm := ({ frames := 1, cells := 0, slots := 0, locals := 22 } : Room)) (wc := [((a 0), .inr (12, (mF a))), ((a 14), .inl (cI, 2, .inl (fun _ => (0 : Int32)))), ((a 17), .inl (cI, 8, .inl (fun _ => (0 : Int32)))), ((a 18), .inl (cI, 8, .inl (fun _ => (0 : Int32)))), ((a 19), .inl (cI, 6, .inl (fun _ => (0 : Int32)))), ((a 20), .inl (cI, 42, .inl (fun _ => (0 : Int32)))), ((a 21), .inl (cI, 42, .inl (fun _ => (0 : Int32)))), ((a 22), .inl (cI, 80, .inl (fun _ => (0 : Int32)))), ((a 23), .inl (cZ, 80, .inl (fun _ => (0 : Int32))))]) (tys := [(cI, .int), (cJ, .long), (cZ, .boolean), (cB, .byte), (cO, .object "LuckLinks$World")]) (D := D) (sz := sz) (own := RX12) (av := [.ref (a 0), .int p1]) (Qc := fun A => va_Qi (fun (r : Int32) (u : Unit) => (r = (0 : Int32) ∧ (0 ≤ p1.toInt ∧ p1.toInt ≤ 3 ∨ 10 ≤ p1.toInt ∧ p1.toInt ≤ 13 ∨ 20 ≤ p1.toInt ∧ p1.toInt ≤ 22 ∨ 31 ≤ p1.toInt ∧ p1.toInt ≤ 50 ∨ 61 ≤ p1.toInt ∧ p1.toInt ≤ 80 ∨ p1.toInt = 200)) ∨ (r = (1 : Int32) ∧ (100 ≤ p1.toInt ∧ p1.toInt ≤ 139)) ∨ (r = (-1 : Int32) ∧ ¬ (0 ≤ p1.toInt ∧ p1.toInt ≤ 3 ∨ 10 ≤ p1.toInt ∧ p1.toInt ≤ 13 ∨ 20 ≤ p1.toInt ∧ p1.toInt ≤ 22 ∨ 31 ≤ p1.toInt ∧ p1.toInt ≤ 50 ∨ 61 ≤ p1.toInt ∧ p1.toInt ≤ 80 ∨ p1.toInt = 200 ∨ 100 ≤ p1.toInt ∧ p1.toInt ≤ 139))) (fun u t => Aft D A ((fun (_ : Unit) => []) u) t) A) (by decide) rfl (Nat.le_of_ble_eq_true rfl) (fun p e s m below meth c A ls C hr hlk hin X hl => ?_)
  have hx := C.1
  have hb := C.2.1
  have hown := C.2.2.2.1
  have hts := C.2.2.2.2.1
  have hl : lv_has ls 2 [(0, .ref (a 0)), (1, .int p1)] := hl
  show W p l e _ s m _ below meth c s.heap [] 0 0 (MQ below (va_Qi (fun (r : Int32) (u : Unit) => (r = (0 : Int32) ∧ (0 ≤ p1.toInt ∧ p1.toInt ≤ 3 ∨ 10 ≤ p1.toInt ∧ p1.toInt ≤ 13 ∨ 20 ≤ p1.toInt ∧ p1.toInt ≤ 22 ∨ 31 ≤ p1.toInt ∧ p1.toInt ≤ 50 ∨ 61 ≤ p1.toInt ∧ p1.toInt ≤ 80 ∨ p1.toInt = 200)) ∨ (r = (1 : Int32) ∧ (100 ≤ p1.toInt ∧ p1.toInt ≤ 139)) ∨ (r = (-1 : Int32) ∧ ¬ (0 ≤ p1.toInt ∧ p1.toInt ≤ 3 ∨ 10 ≤ p1.toInt ∧ p1.toInt ≤ 13 ∨ 20 ≤ p1.toInt ∧ p1.toInt ≤ 22 ∨ 31 ≤ p1.toInt ∧ p1.toInt ≤ 50 ∨ 61 ≤ p1.toInt ∧ p1.toInt ≤ 80 ∨ p1.toInt = 200 ∨ 100 ≤ p1.toInt ∧ p1.toInt ≤ 139))) (fun u t => Aft D A ((fun (_ : Unit) => []) u) t) A) ([.ref (a 0), .int p1] : List Value).toArray s 0 0 A) (F0 m 0 ls [])
  have X : Wd D A s [((a 0), .inr (12, (mF a))), ((a 14), .inl (cI, 2, .inl (fun _ => (0 : Int32)))), ((a 17), .inl (cI, 8, .inl (fun _ => (0 : Int32)))), ((a 18), .inl (cI, 8, .inl (fun _ => (0 : Int32)))), ((a 19), .inl (cI, 6, .inl (fun _ => (0 : Int32)))), ((a 20), .inl (cI, 42, .inl (fun _ => (0 : Int32)))), ((a 21), .inl (cI, 42, .inl (fun _ => (0 : Int32)))), ((a 22), .inl (cI, 80, .inl (fun _ => (0 : Int32)))), ((a 23), .inl (cZ, 80, .inl (fun _ => (0 : Int32))))] s.heap [] := X
  obtain ⟨H, locs, eH, eL⟩ : ∃ H locs, H = s.heap ∧ locs = ([] : List Loc) := ⟨_, _, rfl, rfl⟩
  rw [← eH, ← eL] at X ⊢
  clear eH eL
  refine lv_iload_n hx hb dX12_rule_0 rfl (lv_at hl 1 rfl) ?_
  refine lv_iconst (v := (0 : Int32)) hx hb dX12_rule_1 (by decide) ?_
  refine lv_iconst (v := (3 : Int32)) hx hb dX12_rule_2 (by decide) ?_
  refine x_cS (own := RX12) (wr := [((a 0), .inr (12, (mF a))), ((a 14), .inl (cI, 2, .inl (fun _ => (0 : Int32)))), ((a 17), .inl (cI, 8, .inl (fun _ => (0 : Int32)))), ((a 18), .inl (cI, 8, .inl (fun _ => (0 : Int32)))), ((a 19), .inl (cI, 6, .inl (fun _ => (0 : Int32)))), ((a 20), .inl (cI, 42, .inl (fun _ => (0 : Int32)))), ((a 21), .inl (cI, 42, .inl (fun _ => (0 : Int32)))), ((a 22), .inl (cI, 80, .inl (fun _ => (0 : Int32)))), ((a 23), .inl (cZ, 80, .inl (fun _ => (0 : Int32))))]) (As := [.int p1, .int (0 : Int32), .int (3 : Int32)]) C X hl.1 (c_within l D cI cJ cZ cB cO p1 (0 : Int32) (3 : Int32)) [] [0, 1, 2, 3, 4, 5, 6, 7, 8] ⟨rfl, rfl, by decide, by decide, by decide⟩ k_12_23 k_13_0 k_1_5 k_13_1 (n := 3) (by decide +kernel) ⟨Nat.le_of_ble_eq_true rfl, Nat.le_of_ble_eq_true rfl⟩ rfl rfl (Nat.le_of_ble_eq_true rfl) dX12_rule_3 ⟨Nat.le_of_ble_eq_true rfl, Nat.le_of_ble_eq_true rfl⟩ (fun r_2 u_1 H locs w_3 X => ?_)
  have X : Wd D A s [((a 0), .inr (12, (mF a))), ((a 14), .inl (cI, 2, .inl (fun _ => (0 : Int32)))), ((a 17), .inl (cI, 8, .inl (fun _ => (0 : Int32)))), ((a 18), .inl (cI, 8, .inl (fun _ => (0 : Int32)))), ((a 19), .inl (cI, 6, .inl (fun _ => (0 : Int32)))), ((a 20), .inl (cI, 42, .inl (fun _ => (0 : Int32)))), ((a 21), .inl (cI, 42, .inl (fun _ => (0 : Int32)))), ((a 22), .inl (cI, 80, .inl (fun _ => (0 : Int32)))), ((a 23), .inl (cZ, 80, .inl (fun _ => (0 : Int32))))] H locs := X
  refine W.widen (k := 0) (n := 0) (Nat.le_of_ble_eq_true rfl) (Nat.le_of_ble_eq_true rfl) ?_
  obtain ⟨rfl, fw_3⟩ | ⟨rfl, fw_3⟩ : (r_2 = (1 : Int32) ∧ ((0 : Int) ≤ (p1).toInt ∧ (p1).toInt ≤ (3 : Int))) ∨ (r_2 = (0 : Int32) ∧ ((p1).toInt < (0 : Int) ∨ (3 : Int) < (p1).toInt)) := w_3
  · refine lv_if_eq (tgt := 16) hx hb dX12_rule_6 (by decide) (fun c0 => absurd c0 (by decide)) (fun _ => ?_)
    refine lv_aload_n hx hb dX12_rule_9 rfl (lv_at hl 0 rfl) ?_
    refine x_get (own := RX12) (T := TX12) C X 0 rfl rfl 17 (by decide) k_10_9 rfl rfl (v := .ref (a 17)) rfl dX12_rule_10 ?_
    refine lv_iload_n hx hb dX12_rule_13 rfl (lv_at hl 1 rfl) ?_
    refine x_iald C X 2 0 rfl rfl (j := (p1).toInt.toNat) rfl (vp_in_iff.mpr ⟨by omega, by omega⟩) (v := (0 : Int32)) (rfl) dX12_rule_14 ?_
    exact x_iret C X hr hlk (v := (0 : Int32)) (by first | rfl | decide) (()) [] (by decide) rfl (Or.inl (⟨rfl, by omega⟩)) (Nat.le_of_ble_eq_true rfl) (Nat.le_of_ble_eq_true rfl) dX12_rule_15
  · refine lv_if_eq (tgt := 16) hx hb dX12_rule_6 (by decide) (fun _ => ?_) (fun c0 => absurd (by decide) c0)
    refine lv_iload_n hx hb dX12_rule_16 rfl (lv_at hl 1 rfl) ?_
    refine lv_bipush (v := (10 : Int32)) hx hb dX12_rule_17 (by decide) ?_
    refine lv_bipush (v := (13 : Int32)) hx hb dX12_rule_19 (by decide) ?_
    refine x_cS (own := RX12) (wr := [((a 0), .inr (12, (mF a))), ((a 14), .inl (cI, 2, .inl (fun _ => (0 : Int32)))), ((a 17), .inl (cI, 8, .inl (fun _ => (0 : Int32)))), ((a 18), .inl (cI, 8, .inl (fun _ => (0 : Int32)))), ((a 19), .inl (cI, 6, .inl (fun _ => (0 : Int32)))), ((a 20), .inl (cI, 42, .inl (fun _ => (0 : Int32)))), ((a 21), .inl (cI, 42, .inl (fun _ => (0 : Int32)))), ((a 22), .inl (cI, 80, .inl (fun _ => (0 : Int32)))), ((a 23), .inl (cZ, 80, .inl (fun _ => (0 : Int32))))]) (As := [.int p1, .int (10 : Int32), .int (13 : Int32)]) C X hl.1 (c_within l D cI cJ cZ cB cO p1 (10 : Int32) (13 : Int32)) [] [0, 1, 2, 3, 4, 5, 6, 7, 8] ⟨rfl, rfl, by decide, by decide, by decide⟩ k_12_23 k_13_0 k_1_5 k_13_1 (n := 3) (by decide +kernel) ⟨Nat.le_of_ble_eq_true rfl, Nat.le_of_ble_eq_true rfl⟩ rfl rfl (Nat.le_of_ble_eq_true rfl) dX12_rule_21 ⟨Nat.le_of_ble_eq_true rfl, Nat.le_of_ble_eq_true rfl⟩ (fun r_5 u_4 H locs w_6 X => ?_)
    have X : Wd D A s [((a 0), .inr (12, (mF a))), ((a 14), .inl (cI, 2, .inl (fun _ => (0 : Int32)))), ((a 17), .inl (cI, 8, .inl (fun _ => (0 : Int32)))), ((a 18), .inl (cI, 8, .inl (fun _ => (0 : Int32)))), ((a 19), .inl (cI, 6, .inl (fun _ => (0 : Int32)))), ((a 20), .inl (cI, 42, .inl (fun _ => (0 : Int32)))), ((a 21), .inl (cI, 42, .inl (fun _ => (0 : Int32)))), ((a 22), .inl (cI, 80, .inl (fun _ => (0 : Int32)))), ((a 23), .inl (cZ, 80, .inl (fun _ => (0 : Int32))))] H locs := X
    refine W.widen (k := 0) (n := 0) (Nat.le_of_ble_eq_true rfl) (Nat.le_of_ble_eq_true rfl) ?_
    obtain ⟨rfl, fw_6⟩ | ⟨rfl, fw_6⟩ : (r_5 = (1 : Int32) ∧ ((10 : Int) ≤ (p1).toInt ∧ (p1).toInt ≤ (13 : Int))) ∨ (r_5 = (0 : Int32) ∧ ((p1).toInt < (10 : Int) ∨ (13 : Int) < (p1).toInt)) := w_6
    · refine lv_if_eq (tgt := 37) hx hb dX12_rule_24 (by decide) (fun c0 => absurd c0 (by decide)) (fun _ => ?_)
      refine lv_aload_n hx hb dX12_rule_27 rfl (lv_at hl 0 rfl) ?_
      refine x_get (own := RX12) (T := TX12) C X 0 rfl rfl 18 (by decide) k_10_10 rfl rfl (v := .ref (a 18)) rfl dX12_rule_28 ?_
      refine lv_iload_n hx hb dX12_rule_31 rfl (lv_at hl 1 rfl) ?_
      refine lv_bipush (v := (10 : Int32)) hx hb dX12_rule_32 (by decide) ?_
      refine lv_isub hx hb dX12_rule_34 ?_
      refine x_iald C X 3 0 rfl rfl (j := (p1 - (10 : Int32)).toInt.toNat) rfl (vp_in_iff.mpr (by have e9 : (p1 - (10 : Int32)).toInt = p1.toInt - 10 := i_sub (y := (10 : Int32)) (by show -2147483648 ≤ p1.toInt - 10; omega) (by show p1.toInt - 10 < 2147483648; omega); omega)) (v := (0 : Int32)) (rfl) dX12_rule_35 ?_
      exact x_iret C X hr hlk (v := (0 : Int32)) (by first | rfl | decide) (()) [] (by decide) rfl (Or.inl (⟨rfl, by omega⟩)) (Nat.le_of_ble_eq_true rfl) (Nat.le_of_ble_eq_true rfl) dX12_rule_36
    · refine lv_if_eq (tgt := 37) hx hb dX12_rule_24 (by decide) (fun _ => ?_) (fun c0 => absurd (by decide) c0)
      refine lv_iload_n hx hb dX12_rule_37 rfl (lv_at hl 1 rfl) ?_
      refine lv_bipush (v := (20 : Int32)) hx hb dX12_rule_38 (by decide) ?_
      refine lv_bipush (v := (22 : Int32)) hx hb dX12_rule_40 (by decide) ?_
      refine x_cS (own := RX12) (wr := [((a 0), .inr (12, (mF a))), ((a 14), .inl (cI, 2, .inl (fun _ => (0 : Int32)))), ((a 17), .inl (cI, 8, .inl (fun _ => (0 : Int32)))), ((a 18), .inl (cI, 8, .inl (fun _ => (0 : Int32)))), ((a 19), .inl (cI, 6, .inl (fun _ => (0 : Int32)))), ((a 20), .inl (cI, 42, .inl (fun _ => (0 : Int32)))), ((a 21), .inl (cI, 42, .inl (fun _ => (0 : Int32)))), ((a 22), .inl (cI, 80, .inl (fun _ => (0 : Int32)))), ((a 23), .inl (cZ, 80, .inl (fun _ => (0 : Int32))))]) (As := [.int p1, .int (20 : Int32), .int (22 : Int32)]) C X hl.1 (c_within l D cI cJ cZ cB cO p1 (20 : Int32) (22 : Int32)) [] [0, 1, 2, 3, 4, 5, 6, 7, 8] ⟨rfl, rfl, by decide, by decide, by decide⟩ k_12_23 k_13_0 k_1_5 k_13_1 (n := 3) (by decide +kernel) ⟨Nat.le_of_ble_eq_true rfl, Nat.le_of_ble_eq_true rfl⟩ rfl rfl (Nat.le_of_ble_eq_true rfl) dX12_rule_42 ⟨Nat.le_of_ble_eq_true rfl, Nat.le_of_ble_eq_true rfl⟩ (fun r_8 u_7 H locs w_9 X => ?_)
      have X : Wd D A s [((a 0), .inr (12, (mF a))), ((a 14), .inl (cI, 2, .inl (fun _ => (0 : Int32)))), ((a 17), .inl (cI, 8, .inl (fun _ => (0 : Int32)))), ((a 18), .inl (cI, 8, .inl (fun _ => (0 : Int32)))), ((a 19), .inl (cI, 6, .inl (fun _ => (0 : Int32)))), ((a 20), .inl (cI, 42, .inl (fun _ => (0 : Int32)))), ((a 21), .inl (cI, 42, .inl (fun _ => (0 : Int32)))), ((a 22), .inl (cI, 80, .inl (fun _ => (0 : Int32)))), ((a 23), .inl (cZ, 80, .inl (fun _ => (0 : Int32))))] H locs := X
      refine W.widen (k := 0) (n := 0) (Nat.le_of_ble_eq_true rfl) (Nat.le_of_ble_eq_true rfl) ?_
      obtain ⟨rfl, fw_9⟩ | ⟨rfl, fw_9⟩ : (r_8 = (1 : Int32) ∧ ((20 : Int) ≤ (p1).toInt ∧ (p1).toInt ≤ (22 : Int))) ∨ (r_8 = (0 : Int32) ∧ ((p1).toInt < (20 : Int) ∨ (22 : Int) < (p1).toInt)) := w_9
      · refine lv_if_eq (tgt := 58) hx hb dX12_rule_45 (by decide) (fun c0 => absurd c0 (by decide)) (fun _ => ?_)
        refine lv_aload_n hx hb dX12_rule_48 rfl (lv_at hl 0 rfl) ?_
        refine x_get (own := RX12) (T := TX12) C X 0 rfl rfl 19 (by decide) k_10_11 rfl rfl (v := .ref (a 19)) rfl dX12_rule_49 ?_
        refine lv_iload_n hx hb dX12_rule_52 rfl (lv_at hl 1 rfl) ?_
        refine lv_bipush (v := (20 : Int32)) hx hb dX12_rule_53 (by decide) ?_
        refine lv_isub hx hb dX12_rule_55 ?_
        refine x_iald C X 4 0 rfl rfl (j := (p1 - (20 : Int32)).toInt.toNat) rfl (vp_in_iff.mpr (by have e9 : (p1 - (20 : Int32)).toInt = p1.toInt - 20 := i_sub (y := (20 : Int32)) (by show -2147483648 ≤ p1.toInt - 20; omega) (by show p1.toInt - 20 < 2147483648; omega); omega)) (v := (0 : Int32)) (rfl) dX12_rule_56 ?_
        exact x_iret C X hr hlk (v := (0 : Int32)) (by first | rfl | decide) (()) [] (by decide) rfl (Or.inl (⟨rfl, by omega⟩)) (Nat.le_of_ble_eq_true rfl) (Nat.le_of_ble_eq_true rfl) dX12_rule_57
      · refine lv_if_eq (tgt := 58) hx hb dX12_rule_45 (by decide) (fun _ => ?_) (fun c0 => absurd (by decide) c0)
        refine lv_iload_n hx hb dX12_rule_58 rfl (lv_at hl 1 rfl) ?_
        refine lv_bipush (v := (31 : Int32)) hx hb dX12_rule_59 (by decide) ?_
        refine lv_bipush (v := (50 : Int32)) hx hb dX12_rule_61 (by decide) ?_
        refine x_cS (own := RX12) (wr := [((a 0), .inr (12, (mF a))), ((a 14), .inl (cI, 2, .inl (fun _ => (0 : Int32)))), ((a 17), .inl (cI, 8, .inl (fun _ => (0 : Int32)))), ((a 18), .inl (cI, 8, .inl (fun _ => (0 : Int32)))), ((a 19), .inl (cI, 6, .inl (fun _ => (0 : Int32)))), ((a 20), .inl (cI, 42, .inl (fun _ => (0 : Int32)))), ((a 21), .inl (cI, 42, .inl (fun _ => (0 : Int32)))), ((a 22), .inl (cI, 80, .inl (fun _ => (0 : Int32)))), ((a 23), .inl (cZ, 80, .inl (fun _ => (0 : Int32))))]) (As := [.int p1, .int (31 : Int32), .int (50 : Int32)]) C X hl.1 (c_within l D cI cJ cZ cB cO p1 (31 : Int32) (50 : Int32)) [] [0, 1, 2, 3, 4, 5, 6, 7, 8] ⟨rfl, rfl, by decide, by decide, by decide⟩ k_12_23 k_13_0 k_1_5 k_13_1 (n := 3) (by decide +kernel) ⟨Nat.le_of_ble_eq_true rfl, Nat.le_of_ble_eq_true rfl⟩ rfl rfl (Nat.le_of_ble_eq_true rfl) dX12_rule_63 ⟨Nat.le_of_ble_eq_true rfl, Nat.le_of_ble_eq_true rfl⟩ (fun r_11 u_10 H locs w_12 X => ?_)
        have X : Wd D A s [((a 0), .inr (12, (mF a))), ((a 14), .inl (cI, 2, .inl (fun _ => (0 : Int32)))), ((a 17), .inl (cI, 8, .inl (fun _ => (0 : Int32)))), ((a 18), .inl (cI, 8, .inl (fun _ => (0 : Int32)))), ((a 19), .inl (cI, 6, .inl (fun _ => (0 : Int32)))), ((a 20), .inl (cI, 42, .inl (fun _ => (0 : Int32)))), ((a 21), .inl (cI, 42, .inl (fun _ => (0 : Int32)))), ((a 22), .inl (cI, 80, .inl (fun _ => (0 : Int32)))), ((a 23), .inl (cZ, 80, .inl (fun _ => (0 : Int32))))] H locs := X
        refine W.widen (k := 0) (n := 0) (Nat.le_of_ble_eq_true rfl) (Nat.le_of_ble_eq_true rfl) ?_
        obtain ⟨rfl, fw_12⟩ | ⟨rfl, fw_12⟩ : (r_11 = (1 : Int32) ∧ ((31 : Int) ≤ (p1).toInt ∧ (p1).toInt ≤ (50 : Int))) ∨ (r_11 = (0 : Int32) ∧ ((p1).toInt < (31 : Int) ∨ (50 : Int) < (p1).toInt)) := w_12
        · refine lv_if_eq (tgt := 79) hx hb dX12_rule_66 (by decide) (fun c0 => absurd c0 (by decide)) (fun _ => ?_)
          refine lv_aload_n hx hb dX12_rule_69 rfl (lv_at hl 0 rfl) ?_
          refine x_get (own := RX12) (T := TX12) C X 0 rfl rfl 20 (by decide) k_10_12 rfl rfl (v := .ref (a 20)) rfl dX12_rule_70 ?_
          refine lv_iload_n hx hb dX12_rule_73 rfl (lv_at hl 1 rfl) ?_
          refine lv_bipush (v := (30 : Int32)) hx hb dX12_rule_74 (by decide) ?_
          refine lv_isub hx hb dX12_rule_76 ?_
          refine x_iald C X 5 0 rfl rfl (j := (p1 - (30 : Int32)).toInt.toNat) rfl (vp_in_iff.mpr (by have e9 : (p1 - (30 : Int32)).toInt = p1.toInt - 30 := i_sub (y := (30 : Int32)) (by show -2147483648 ≤ p1.toInt - 30; omega) (by show p1.toInt - 30 < 2147483648; omega); omega)) (v := (0 : Int32)) (rfl) dX12_rule_77 ?_
          exact x_iret C X hr hlk (v := (0 : Int32)) (by first | rfl | decide) (()) [] (by decide) rfl (Or.inl (⟨rfl, by omega⟩)) (Nat.le_of_ble_eq_true rfl) (Nat.le_of_ble_eq_true rfl) dX12_rule_78
        · refine lv_if_eq (tgt := 79) hx hb dX12_rule_66 (by decide) (fun _ => ?_) (fun c0 => absurd (by decide) c0)
          refine lv_iload_n hx hb dX12_rule_79 rfl (lv_at hl 1 rfl) ?_
          refine lv_bipush (v := (61 : Int32)) hx hb dX12_rule_80 (by decide) ?_
          refine lv_bipush (v := (80 : Int32)) hx hb dX12_rule_82 (by decide) ?_
          refine x_cS (own := RX12) (wr := [((a 0), .inr (12, (mF a))), ((a 14), .inl (cI, 2, .inl (fun _ => (0 : Int32)))), ((a 17), .inl (cI, 8, .inl (fun _ => (0 : Int32)))), ((a 18), .inl (cI, 8, .inl (fun _ => (0 : Int32)))), ((a 19), .inl (cI, 6, .inl (fun _ => (0 : Int32)))), ((a 20), .inl (cI, 42, .inl (fun _ => (0 : Int32)))), ((a 21), .inl (cI, 42, .inl (fun _ => (0 : Int32)))), ((a 22), .inl (cI, 80, .inl (fun _ => (0 : Int32)))), ((a 23), .inl (cZ, 80, .inl (fun _ => (0 : Int32))))]) (As := [.int p1, .int (61 : Int32), .int (80 : Int32)]) C X hl.1 (c_within l D cI cJ cZ cB cO p1 (61 : Int32) (80 : Int32)) [] [0, 1, 2, 3, 4, 5, 6, 7, 8] ⟨rfl, rfl, by decide, by decide, by decide⟩ k_12_23 k_13_0 k_1_5 k_13_1 (n := 3) (by decide +kernel) ⟨Nat.le_of_ble_eq_true rfl, Nat.le_of_ble_eq_true rfl⟩ rfl rfl (Nat.le_of_ble_eq_true rfl) dX12_rule_84 ⟨Nat.le_of_ble_eq_true rfl, Nat.le_of_ble_eq_true rfl⟩ (fun r_14 u_13 H locs w_15 X => ?_)
          have X : Wd D A s [((a 0), .inr (12, (mF a))), ((a 14), .inl (cI, 2, .inl (fun _ => (0 : Int32)))), ((a 17), .inl (cI, 8, .inl (fun _ => (0 : Int32)))), ((a 18), .inl (cI, 8, .inl (fun _ => (0 : Int32)))), ((a 19), .inl (cI, 6, .inl (fun _ => (0 : Int32)))), ((a 20), .inl (cI, 42, .inl (fun _ => (0 : Int32)))), ((a 21), .inl (cI, 42, .inl (fun _ => (0 : Int32)))), ((a 22), .inl (cI, 80, .inl (fun _ => (0 : Int32)))), ((a 23), .inl (cZ, 80, .inl (fun _ => (0 : Int32))))] H locs := X
          refine W.widen (k := 0) (n := 0) (Nat.le_of_ble_eq_true rfl) (Nat.le_of_ble_eq_true rfl) ?_
          obtain ⟨rfl, fw_15⟩ | ⟨rfl, fw_15⟩ : (r_14 = (1 : Int32) ∧ ((61 : Int) ≤ (p1).toInt ∧ (p1).toInt ≤ (80 : Int))) ∨ (r_14 = (0 : Int32) ∧ ((p1).toInt < (61 : Int) ∨ (80 : Int) < (p1).toInt)) := w_15
          · refine lv_if_eq (tgt := 100) hx hb dX12_rule_87 (by decide) (fun c0 => absurd c0 (by decide)) (fun _ => ?_)
            refine lv_aload_n hx hb dX12_rule_90 rfl (lv_at hl 0 rfl) ?_
            refine x_get (own := RX12) (T := TX12) C X 0 rfl rfl 21 (by decide) k_10_13 rfl rfl (v := .ref (a 21)) rfl dX12_rule_91 ?_
            refine lv_iload_n hx hb dX12_rule_94 rfl (lv_at hl 1 rfl) ?_
            refine lv_bipush (v := (60 : Int32)) hx hb dX12_rule_95 (by decide) ?_
            refine lv_isub hx hb dX12_rule_97 ?_
            refine x_iald C X 6 0 rfl rfl (j := (p1 - (60 : Int32)).toInt.toNat) rfl (vp_in_iff.mpr (by have e9 : (p1 - (60 : Int32)).toInt = p1.toInt - 60 := i_sub (y := (60 : Int32)) (by show -2147483648 ≤ p1.toInt - 60; omega) (by show p1.toInt - 60 < 2147483648; omega); omega)) (v := (0 : Int32)) (rfl) dX12_rule_98 ?_
            exact x_iret C X hr hlk (v := (0 : Int32)) (by first | rfl | decide) (()) [] (by decide) rfl (Or.inl (⟨rfl, by omega⟩)) (Nat.le_of_ble_eq_true rfl) (Nat.le_of_ble_eq_true rfl) dX12_rule_99
          · refine lv_if_eq (tgt := 100) hx hb dX12_rule_87 (by decide) (fun _ => ?_) (fun c0 => absurd (by decide) c0)
            refine lv_iload_n hx hb dX12_rule_100 rfl (lv_at hl 1 rfl) ?_
            refine lv_bipush (v := (100 : Int32)) hx hb dX12_rule_101 (by decide) ?_
            refine lv_sipush (v := (139 : Int32)) hx hb dX12_rule_103 (by decide) ?_
            refine x_cS (own := RX12) (wr := [((a 0), .inr (12, (mF a))), ((a 14), .inl (cI, 2, .inl (fun _ => (0 : Int32)))), ((a 17), .inl (cI, 8, .inl (fun _ => (0 : Int32)))), ((a 18), .inl (cI, 8, .inl (fun _ => (0 : Int32)))), ((a 19), .inl (cI, 6, .inl (fun _ => (0 : Int32)))), ((a 20), .inl (cI, 42, .inl (fun _ => (0 : Int32)))), ((a 21), .inl (cI, 42, .inl (fun _ => (0 : Int32)))), ((a 22), .inl (cI, 80, .inl (fun _ => (0 : Int32)))), ((a 23), .inl (cZ, 80, .inl (fun _ => (0 : Int32))))]) (As := [.int p1, .int (100 : Int32), .int (139 : Int32)]) C X hl.1 (c_within l D cI cJ cZ cB cO p1 (100 : Int32) (139 : Int32)) [] [0, 1, 2, 3, 4, 5, 6, 7, 8] ⟨rfl, rfl, by decide, by decide, by decide⟩ k_12_23 k_13_0 k_1_5 k_13_1 (n := 3) (by decide +kernel) ⟨Nat.le_of_ble_eq_true rfl, Nat.le_of_ble_eq_true rfl⟩ rfl rfl (Nat.le_of_ble_eq_true rfl) dX12_rule_106 ⟨Nat.le_of_ble_eq_true rfl, Nat.le_of_ble_eq_true rfl⟩ (fun r_17 u_16 H locs w_18 X => ?_)
            have X : Wd D A s [((a 0), .inr (12, (mF a))), ((a 14), .inl (cI, 2, .inl (fun _ => (0 : Int32)))), ((a 17), .inl (cI, 8, .inl (fun _ => (0 : Int32)))), ((a 18), .inl (cI, 8, .inl (fun _ => (0 : Int32)))), ((a 19), .inl (cI, 6, .inl (fun _ => (0 : Int32)))), ((a 20), .inl (cI, 42, .inl (fun _ => (0 : Int32)))), ((a 21), .inl (cI, 42, .inl (fun _ => (0 : Int32)))), ((a 22), .inl (cI, 80, .inl (fun _ => (0 : Int32)))), ((a 23), .inl (cZ, 80, .inl (fun _ => (0 : Int32))))] H locs := X
            refine W.widen (k := 0) (n := 0) (Nat.le_of_ble_eq_true rfl) (Nat.le_of_ble_eq_true rfl) ?_
            obtain ⟨rfl, fw_18⟩ | ⟨rfl, fw_18⟩ : (r_17 = (1 : Int32) ∧ ((100 : Int) ≤ (p1).toInt ∧ (p1).toInt ≤ (139 : Int))) ∨ (r_17 = (0 : Int32) ∧ ((p1).toInt < (100 : Int) ∨ (139 : Int) < (p1).toInt)) := w_18
            · refine lv_if_eq (tgt := 121) hx hb dX12_rule_109 (by decide) (fun c0 => absurd c0 (by decide)) (fun _ => ?_)
              refine lv_aload_n hx hb dX12_rule_112 rfl (lv_at hl 0 rfl) ?_
              refine lv_iload_n hx hb dX12_rule_113 rfl (lv_at hl 1 rfl) ?_
              refine lv_bipush (v := (100 : Int32)) hx hb dX12_rule_114 (by decide) ?_
              refine lv_isub hx hb dX12_rule_116 ?_
              refine x_cV (own := RX12) (wr := [((a 14), .inl (cI, 2, .inl (fun _ => (0 : Int32)))), ((a 17), .inl (cI, 8, .inl (fun _ => (0 : Int32)))), ((a 18), .inl (cI, 8, .inl (fun _ => (0 : Int32)))), ((a 19), .inl (cI, 6, .inl (fun _ => (0 : Int32)))), ((a 20), .inl (cI, 42, .inl (fun _ => (0 : Int32)))), ((a 21), .inl (cI, 42, .inl (fun _ => (0 : Int32))))]) (As := [.int (p1 - (100 : Int32))]) C X hl.1 (cm_weightOf l D cI cJ cZ cB cO a (p1 - (100 : Int32)) (by have e9 : (p1 - (100 : Int32)).toInt = p1.toInt - 100 := i_sub (y := (100 : Int32)) (by show -2147483648 ≤ p1.toInt - 100; omega) (by show p1.toInt - 100 < 2147483648; omega); omega) (by have e9 : (p1 - (100 : Int32)).toInt = p1.toInt - 100 := i_sub (y := (100 : Int32)) (by show -2147483648 ≤ p1.toInt - 100; omega) (by show p1.toInt - 100 < 2147483648; omega); omega)) [0, 8, 7] [1, 2, 3, 4, 5, 6] ⟨rfl, rfl, by decide, by decide, by decide⟩ (qb := 0) rfl rfl k_31_2 k_31_3 k_31_4 k_1_5 k_31_5 (n := 1) (by decide +kernel) ⟨Nat.le_of_ble_eq_true rfl, Nat.le_of_ble_eq_true rfl⟩ rfl rfl (Nat.le_of_ble_eq_true rfl) dX12_rule_117 ⟨Nat.le_of_ble_eq_true rfl, Nat.le_of_ble_eq_true rfl⟩ (fun r_20 u_19 H locs w_21 X => ?_)
              have X : Wd D A s [((a 14), .inl (cI, 2, .inl (fun _ => (0 : Int32)))), ((a 17), .inl (cI, 8, .inl (fun _ => (0 : Int32)))), ((a 18), .inl (cI, 8, .inl (fun _ => (0 : Int32)))), ((a 19), .inl (cI, 6, .inl (fun _ => (0 : Int32)))), ((a 20), .inl (cI, 42, .inl (fun _ => (0 : Int32)))), ((a 21), .inl (cI, 42, .inl (fun _ => (0 : Int32))))] H locs := X
              refine W.widen (k := 0) (n := 0) (Nat.le_of_ble_eq_true rfl) (Nat.le_of_ble_eq_true rfl) ?_
              obtain ⟨rfl, fw_21⟩ : r_20 = (1 : Int32) ∧ True := w_21
              exact x_iret C X hr hlk (v := (1 : Int32)) (by first | rfl | decide) (()) [] (by decide) rfl (Or.inr (Or.inl (⟨rfl, by omega⟩))) (Nat.le_of_ble_eq_true rfl) (Nat.le_of_ble_eq_true rfl) dX12_rule_120
            · refine lv_if_eq (tgt := 121) hx hb dX12_rule_109 (by decide) (fun _ => ?_) (fun c0 => absurd (by decide) c0)
              refine lv_iload_n hx hb dX12_rule_121 rfl (lv_at hl 1 rfl) ?_
              refine lv_sipush (v := (200 : Int32)) hx hb dX12_rule_122 (by decide) ?_
              refine lv_icmp_ne (tgt := 137) hx hb dX12_rule_125 (by decide) (fun c_22 => ?_) (fun c_22 => ?_)
              · have fc_22 : (p1).toInt ≠ (200 : Int) := i_ne c_22
                refine lv_iconst (v := (-1 : Int32)) hx hb dX12_rule_137 (by decide) ?_
                exact x_iret C X hr hlk (v := (-1 : Int32)) (by first | rfl | decide) (()) [] (by decide) rfl (Or.inr (Or.inr (⟨rfl, by omega⟩))) (Nat.le_of_ble_eq_true rfl) (Nat.le_of_ble_eq_true rfl) dX12_rule_138
              · have fc_22 : (p1).toInt = (200 : Int) := i_eq c_22
                refine lv_aload_n hx hb dX12_rule_128 rfl (lv_at hl 0 rfl) ?_
                refine x_get (own := RX12) (T := TX12) C X 0 rfl rfl 14 (by decide) k_10_6 rfl rfl (v := .ref (a 14)) rfl dX12_rule_129 ?_
                refine lv_iconst (v := (0 : Int32)) hx hb dX12_rule_132 (by decide) ?_
                refine x_iald C X 1 0 rfl rfl (j := 0) rfl (vp_in_nI (n := 0) (by omega) (by omega)) (v := (0 : Int32)) (rfl) dX12_rule_133 ?_
                refine lv_goto (tgt := 138) hx hb dX12_rule_134 (by decide) ?_
                exact x_iret C X hr hlk (v := (0 : Int32)) (by first | rfl | decide) (()) [] (by decide) rfl (Or.inl (⟨rfl, by omega⟩)) (Nat.le_of_ble_eq_true rfl) (Nat.le_of_ble_eq_true rfl) dX12_rule_138
set_option maxHeartbeats 4000000 in
set_option maxRecDepth 100000 in
theorem cm_count (l : Launch) (D : va_G) (cI cJ cZ cB : ClassId) (cO : ClassId) (a : Nat → Nat) (p1 : Int32) :
    CI l D [(cI, .int), (cJ, .long), (cZ, .boolean), (cB, .byte), (cO, .object "LuckLinks$World")] yX12_count cX12_count 2 (some .int) ({ frames := 1, cells := 0, slots := 0, locals := 22 } : Room) [.ref (a 0), .int p1] [((a 0), .inr (12, (mF a))), ((a 1), .inl (cI, 4, .inl (fun _ => (0 : Int32)))), ((a 2), .inl (cI, 4, .inl (fun _ => (0 : Int32)))), ((a 3), .inl (cI, 4, .inl (fun _ => (0 : Int32)))), ((a 7), .inl (cI, 160, .inl (wk0))), ((a 13), .inl (cI, 3, .inl (fun _ => (0 : Int32))))] (fun (r : Int32) (u : Unit) => (r = (0 : Int32) ∧ (0 ≤ p1.toInt ∧ p1.toInt ≤ 7)) ∨ (r = (-1 : Int32) ∧ (p1.toInt < 0 ∨ 7 < p1.toInt))) (fun (_ : Unit) => []) := by
  intro sz
  refine body_of (y := yX12_count) (cc := cX12_count) (maxL := 2) (ret := (some .int)) (rm := ({ frames := 1, cells := 0, slots := 0, locals := 22 } : Room)) (wc := [((a 0), .inr (12, (mF a))), ((a 1), .inl (cI, 4, .inl (fun _ => (0 : Int32)))), ((a 2), .inl (cI, 4, .inl (fun _ => (0 : Int32)))), ((a 3), .inl (cI, 4, .inl (fun _ => (0 : Int32)))), ((a 7), .inl (cI, 160, .inl (wk0))), ((a 13), .inl (cI, 3, .inl (fun _ => (0 : Int32))))]) (tys := [(cI, .int), (cJ, .long), (cZ, .boolean), (cB, .byte), (cO, .object "LuckLinks$World")]) (D := D) (sz := sz) (own := RX12) (av := [.ref (a 0), .int p1]) (Qc := fun A => va_Qi (fun (r : Int32) (u : Unit) => (r = (0 : Int32) ∧ (0 ≤ p1.toInt ∧ p1.toInt ≤ 7)) ∨ (r = (-1 : Int32) ∧ (p1.toInt < 0 ∨ 7 < p1.toInt))) (fun u t => Aft D A ((fun (_ : Unit) => []) u) t) A) (by decide) rfl (Nat.le_of_ble_eq_true rfl) (fun p e s m below meth c A ls C hr hlk hin X hl => ?_)
  have hx := C.1
  have hb := C.2.1
  have hown := C.2.2.2.1
  have hts := C.2.2.2.2.1
  have hl : lv_has ls 2 [(0, .ref (a 0)), (1, .int p1)] := hl
  show W p l e _ s m _ below meth c s.heap [] 0 0 (MQ below (va_Qi (fun (r : Int32) (u : Unit) => (r = (0 : Int32) ∧ (0 ≤ p1.toInt ∧ p1.toInt ≤ 7)) ∨ (r = (-1 : Int32) ∧ (p1.toInt < 0 ∨ 7 < p1.toInt))) (fun u t => Aft D A ((fun (_ : Unit) => []) u) t) A) ([.ref (a 0), .int p1] : List Value).toArray s 0 0 A) (F0 m 0 ls [])
  have X : Wd D A s [((a 0), .inr (12, (mF a))), ((a 1), .inl (cI, 4, .inl (fun _ => (0 : Int32)))), ((a 2), .inl (cI, 4, .inl (fun _ => (0 : Int32)))), ((a 3), .inl (cI, 4, .inl (fun _ => (0 : Int32)))), ((a 7), .inl (cI, 160, .inl (wk0))), ((a 13), .inl (cI, 3, .inl (fun _ => (0 : Int32))))] s.heap [] := X
  obtain ⟨H, locs, eH, eL⟩ : ∃ H locs, H = s.heap ∧ locs = ([] : List Loc) := ⟨_, _, rfl, rfl⟩
  rw [← eH, ← eL] at X ⊢
  clear eH eL
  refine lv_iload_n hx hb dX12_count_0 rfl (lv_at hl 1 rfl) ?_
  refine lv_bipush (v := (10 : Int32)) hx hb dX12_count_1 (by decide) ?_
  refine lv_bipush (v := (49 : Int32)) hx hb dX12_count_3 (by decide) ?_
  refine x_cS (own := RX12) (wr := [((a 0), .inr (12, (mF a))), ((a 1), .inl (cI, 4, .inl (fun _ => (0 : Int32)))), ((a 2), .inl (cI, 4, .inl (fun _ => (0 : Int32)))), ((a 3), .inl (cI, 4, .inl (fun _ => (0 : Int32)))), ((a 7), .inl (cI, 160, .inl (wk0))), ((a 13), .inl (cI, 3, .inl (fun _ => (0 : Int32))))]) (As := [.int p1, .int (10 : Int32), .int (49 : Int32)]) C X hl.1 (c_within l D cI cJ cZ cB cO p1 (10 : Int32) (49 : Int32)) [] [0, 1, 2, 3, 4, 5] ⟨rfl, rfl, by decide, by decide, by decide⟩ k_12_23 k_13_0 k_1_5 k_13_1 (n := 3) (by decide +kernel) ⟨Nat.le_of_ble_eq_true rfl, Nat.le_of_ble_eq_true rfl⟩ rfl rfl (Nat.le_of_ble_eq_true rfl) dX12_count_5 ⟨Nat.le_of_ble_eq_true rfl, Nat.le_of_ble_eq_true rfl⟩ (fun r_2 u_1 H locs w_3 X => ?_)
  have X : Wd D A s [((a 0), .inr (12, (mF a))), ((a 1), .inl (cI, 4, .inl (fun _ => (0 : Int32)))), ((a 2), .inl (cI, 4, .inl (fun _ => (0 : Int32)))), ((a 3), .inl (cI, 4, .inl (fun _ => (0 : Int32)))), ((a 7), .inl (cI, 160, .inl (wk0))), ((a 13), .inl (cI, 3, .inl (fun _ => (0 : Int32))))] H locs := X
  refine W.widen (k := 0) (n := 0) (Nat.le_of_ble_eq_true rfl) (Nat.le_of_ble_eq_true rfl) ?_
  obtain ⟨rfl, fw_3⟩ | ⟨rfl, fw_3⟩ : (r_2 = (1 : Int32) ∧ ((10 : Int) ≤ (p1).toInt ∧ (p1).toInt ≤ (49 : Int))) ∨ (r_2 = (0 : Int32) ∧ ((p1).toInt < (10 : Int) ∨ (49 : Int) < (p1).toInt)) := w_3
  · refine lv_if_eq (tgt := 21) hx hb dX12_count_8 (by decide) (fun c0 => absurd c0 (by decide)) (fun _ => ?_)
    refine lv_aload_n hx hb dX12_count_11 rfl (lv_at hl 0 rfl) ?_
    refine x_get (own := RX12) (T := TX12) C X 0 rfl rfl 6 (by decide) k_9_22 rfl rfl (v := .ref (a 7)) rfl dX12_count_12 ?_
    refine lv_iload_n hx hb dX12_count_15 rfl (lv_at hl 1 rfl) ?_
    refine lv_bipush (v := (10 : Int32)) hx hb dX12_count_16 (by decide) ?_
    refine lv_isub hx hb dX12_count_18 ?_
    refine x_iald C X 4 0 rfl rfl (j := (p1 - (10 : Int32)).toInt.toNat) rfl (vp_in_iff.mpr (by have e9 : (p1 - (10 : Int32)).toInt = p1.toInt - 10 := i_sub (y := (10 : Int32)) (by show -2147483648 ≤ p1.toInt - 10; omega) (by show p1.toInt - 10 < 2147483648; omega); omega)) (v := (-1 : Int32)) (by have e9 : (p1 - (10 : Int32)).toInt = p1.toInt - 10 := i_sub (y := (10 : Int32)) (by show -2147483648 ≤ p1.toInt - 10; omega) (by show p1.toInt - 10 < 2147483648; omega); unfold wk0; exact if_pos (by omega)) dX12_count_19 ?_
    exact x_iret C X hr hlk (v := (-1 : Int32)) (by first | rfl | decide) (()) [] (by decide) rfl (Or.inr (⟨rfl, by omega⟩)) (Nat.le_of_ble_eq_true rfl) (Nat.le_of_ble_eq_true rfl) dX12_count_20
  · refine lv_if_eq (tgt := 21) hx hb dX12_count_8 (by decide) (fun _ => ?_) (fun c0 => absurd (by decide) c0)
    refine lv_iload_n hx hb dX12_count_21 rfl (lv_at hl 1 rfl) ?_
    by_cases e_3 : p1 = (0 : Int32)
    · refine lv_tableIn (off := 46) (tgt := 68) hx hb dX12_count_22 (by rw [e_3]; decide) (by rw [e_3]; decide) (by rw [e_3]; rfl) (by decide) ?_
      have fe_3 : (p1).toInt = 0 := i_eq e_3
      refine lv_aload_n hx hb dX12_count_68 rfl (lv_at hl 0 rfl) ?_
      refine x_get (own := RX12) (T := TX12) C X 0 rfl rfl 0 (by decide) k_9_16 rfl rfl (v := .ref (a 1)) rfl dX12_count_69 ?_
      refine lv_iconst (v := (0 : Int32)) hx hb dX12_count_72 (by decide) ?_
      refine x_iald C X 1 0 rfl rfl (j := 0) rfl (vp_in_nI (n := 0) (by omega) (by omega)) (v := (0 : Int32)) (rfl) dX12_count_73 ?_
      exact x_iret C X hr hlk (v := (0 : Int32)) (by first | rfl | decide) (()) [] (by decide) rfl (Or.inl (⟨rfl, by omega⟩)) (Nat.le_of_ble_eq_true rfl) (Nat.le_of_ble_eq_true rfl) dX12_count_74
    by_cases e_4 : p1 = (1 : Int32)
    · refine lv_tableIn (off := 53) (tgt := 75) hx hb dX12_count_22 (by rw [e_4]; decide) (by rw [e_4]; decide) (by rw [e_4]; rfl) (by decide) ?_
      have fe_4 : (p1).toInt = 1 := i_eq e_4
      refine lv_aload_n hx hb dX12_count_75 rfl (lv_at hl 0 rfl) ?_
      refine x_get (own := RX12) (T := TX12) C X 0 rfl rfl 1 (by decide) k_9_17 rfl rfl (v := .ref (a 2)) rfl dX12_count_76 ?_
      refine lv_iconst (v := (0 : Int32)) hx hb dX12_count_79 (by decide) ?_
      refine x_iald C X 2 0 rfl rfl (j := 0) rfl (vp_in_nI (n := 0) (by omega) (by omega)) (v := (0 : Int32)) (rfl) dX12_count_80 ?_
      exact x_iret C X hr hlk (v := (0 : Int32)) (by first | rfl | decide) (()) [] (by decide) rfl (Or.inl (⟨rfl, by omega⟩)) (Nat.le_of_ble_eq_true rfl) (Nat.le_of_ble_eq_true rfl) dX12_count_81
    by_cases e_5 : p1 = (2 : Int32)
    · refine lv_tableIn (off := 60) (tgt := 82) hx hb dX12_count_22 (by rw [e_5]; decide) (by rw [e_5]; decide) (by rw [e_5]; rfl) (by decide) ?_
      have fe_5 : (p1).toInt = 2 := i_eq e_5
      refine lv_aload_n hx hb dX12_count_82 rfl (lv_at hl 0 rfl) ?_
      refine x_get (own := RX12) (T := TX12) C X 0 rfl rfl 2 (by decide) k_9_18 rfl rfl (v := .ref (a 3)) rfl dX12_count_83 ?_
      refine lv_iconst (v := (0 : Int32)) hx hb dX12_count_86 (by decide) ?_
      refine x_iald C X 3 0 rfl rfl (j := 0) rfl (vp_in_nI (n := 0) (by omega) (by omega)) (v := (0 : Int32)) (rfl) dX12_count_87 ?_
      exact x_iret C X hr hlk (v := (0 : Int32)) (by first | rfl | decide) (()) [] (by decide) rfl (Or.inl (⟨rfl, by omega⟩)) (Nat.le_of_ble_eq_true rfl) (Nat.le_of_ble_eq_true rfl) dX12_count_88
    by_cases e_6 : p1 = (3 : Int32)
    · refine lv_tableIn (off := 67) (tgt := 89) hx hb dX12_count_22 (by rw [e_6]; decide) (by rw [e_6]; decide) (by rw [e_6]; rfl) (by decide) ?_
      have fe_6 : (p1).toInt = 3 := i_eq e_6
      refine lv_aload_n hx hb dX12_count_89 rfl (lv_at hl 0 rfl) ?_
      refine x_get (own := RX12) (T := TX12) C X 0 rfl rfl 37 (by decide) k_18_11 rfl rfl (v := .int (0 : Int32)) rfl dX12_count_90 ?_
      exact x_iret C X hr hlk (v := (0 : Int32)) (by first | rfl | decide) (()) [] (by decide) rfl (Or.inl (⟨rfl, by omega⟩)) (Nat.le_of_ble_eq_true rfl) (Nat.le_of_ble_eq_true rfl) dX12_count_93
    by_cases e_7 : p1 = (4 : Int32)
    · refine lv_tableIn (off := 72) (tgt := 94) hx hb dX12_count_22 (by rw [e_7]; decide) (by rw [e_7]; decide) (by rw [e_7]; rfl) (by decide) ?_
      have fe_7 : (p1).toInt = 4 := i_eq e_7
      refine lv_aload_n hx hb dX12_count_94 rfl (lv_at hl 0 rfl) ?_
      refine x_get (own := RX12) (T := TX12) C X 0 rfl rfl 12 (by decide) k_66_16 rfl rfl (v := .int (0 : Int32)) rfl dX12_count_95 ?_
      exact x_iret C X hr hlk (v := (0 : Int32)) (by first | rfl | decide) (()) [] (by decide) rfl (Or.inl (⟨rfl, by omega⟩)) (Nat.le_of_ble_eq_true rfl) (Nat.le_of_ble_eq_true rfl) dX12_count_98
    by_cases e_8 : p1 = (5 : Int32)
    · refine lv_tableIn (off := 77) (tgt := 99) hx hb dX12_count_22 (by rw [e_8]; decide) (by rw [e_8]; decide) (by rw [e_8]; rfl) (by decide) ?_
      have fe_8 : (p1).toInt = 5 := i_eq e_8
      refine lv_aload_n hx hb dX12_count_99 rfl (lv_at hl 0 rfl) ?_
      refine x_get (own := RX12) (T := TX12) C X 0 rfl rfl 13 (by decide) k_10_5 rfl rfl (v := .ref (a 13)) rfl dX12_count_100 ?_
      refine lv_iconst (v := (0 : Int32)) hx hb dX12_count_103 (by decide) ?_
      refine x_iald C X 5 0 rfl rfl (j := 0) rfl (vp_in_nI (n := 0) (by omega) (by omega)) (v := (0 : Int32)) (rfl) dX12_count_104 ?_
      exact x_iret C X hr hlk (v := (0 : Int32)) (by first | rfl | decide) (()) [] (by decide) rfl (Or.inl (⟨rfl, by omega⟩)) (Nat.le_of_ble_eq_true rfl) (Nat.le_of_ble_eq_true rfl) dX12_count_105
    by_cases e_9 : p1 = (6 : Int32)
    · refine lv_tableIn (off := 84) (tgt := 106) hx hb dX12_count_22 (by rw [e_9]; decide) (by rw [e_9]; decide) (by rw [e_9]; rfl) (by decide) ?_
      have fe_9 : (p1).toInt = 6 := i_eq e_9
      refine lv_aload_n hx hb dX12_count_106 rfl (lv_at hl 0 rfl) ?_
      refine x_get (own := RX12) (T := TX12) C X 0 rfl rfl 13 (by decide) k_10_5 rfl rfl (v := .ref (a 13)) rfl dX12_count_107 ?_
      refine lv_iconst (v := (1 : Int32)) hx hb dX12_count_110 (by decide) ?_
      refine x_iald C X 5 0 rfl rfl (j := 1) rfl (vp_in_nI (n := 1) (by omega) (by omega)) (v := (0 : Int32)) (rfl) dX12_count_111 ?_
      exact x_iret C X hr hlk (v := (0 : Int32)) (by first | rfl | decide) (()) [] (by decide) rfl (Or.inl (⟨rfl, by omega⟩)) (Nat.le_of_ble_eq_true rfl) (Nat.le_of_ble_eq_true rfl) dX12_count_112
    by_cases e_10 : p1 = (7 : Int32)
    · refine lv_tableIn (off := 91) (tgt := 113) hx hb dX12_count_22 (by rw [e_10]; decide) (by rw [e_10]; decide) (by rw [e_10]; rfl) (by decide) ?_
      have fe_10 : (p1).toInt = 7 := i_eq e_10
      refine lv_aload_n hx hb dX12_count_113 rfl (lv_at hl 0 rfl) ?_
      refine x_get (own := RX12) (T := TX12) C X 0 rfl rfl 13 (by decide) k_10_5 rfl rfl (v := .ref (a 13)) rfl dX12_count_114 ?_
      refine lv_iconst (v := (2 : Int32)) hx hb dX12_count_117 (by decide) ?_
      refine x_iald C X 5 0 rfl rfl (j := 2) rfl (vp_in_nI (n := 2) (by omega) (by omega)) (v := (0 : Int32)) (rfl) dX12_count_118 ?_
      exact x_iret C X hr hlk (v := (0 : Int32)) (by first | rfl | decide) (()) [] (by decide) rfl (Or.inl (⟨rfl, by omega⟩)) (Nat.le_of_ble_eq_true rfl) (Nat.le_of_ble_eq_true rfl) dX12_count_119
    refine lv_tableOut (tgt := 120) hx hb dX12_count_22 (by have g0 := i_ne (x := p1) (y := (0 : Int32)) (by assumption); have g0 : (p1).toInt ≠ 0 := g0; have g1 := i_ne (x := p1) (y := (1 : Int32)) (by assumption); have g1 : (p1).toInt ≠ 1 := g1; have g2 := i_ne (x := p1) (y := (2 : Int32)) (by assumption); have g2 : (p1).toInt ≠ 2 := g2; have g3 := i_ne (x := p1) (y := (3 : Int32)) (by assumption); have g3 : (p1).toInt ≠ 3 := g3; have g4 := i_ne (x := p1) (y := (4 : Int32)) (by assumption); have g4 : (p1).toInt ≠ 4 := g4; have g5 := i_ne (x := p1) (y := (5 : Int32)) (by assumption); have g5 : (p1).toInt ≠ 5 := g5; have g6 := i_ne (x := p1) (y := (6 : Int32)) (by assumption); have g6 : (p1).toInt ≠ 6 := g6; have g7 := i_ne (x := p1) (y := (7 : Int32)) (by assumption); have g7 : (p1).toInt ≠ 7 := g7; omega) (by decide) ?_
    have ge_11_0 : (p1).toInt ≠ 0 := i_ne (x := p1) (y := (0 : Int32)) (by assumption)
    have ge_11_1 : (p1).toInt ≠ 1 := i_ne (x := p1) (y := (1 : Int32)) (by assumption)
    have ge_11_2 : (p1).toInt ≠ 2 := i_ne (x := p1) (y := (2 : Int32)) (by assumption)
    have ge_11_3 : (p1).toInt ≠ 3 := i_ne (x := p1) (y := (3 : Int32)) (by assumption)
    have ge_11_4 : (p1).toInt ≠ 4 := i_ne (x := p1) (y := (4 : Int32)) (by assumption)
    have ge_11_5 : (p1).toInt ≠ 5 := i_ne (x := p1) (y := (5 : Int32)) (by assumption)
    have ge_11_6 : (p1).toInt ≠ 6 := i_ne (x := p1) (y := (6 : Int32)) (by assumption)
    have ge_11_7 : (p1).toInt ≠ 7 := i_ne (x := p1) (y := (7 : Int32)) (by assumption)
    refine lv_iconst (v := (-1 : Int32)) hx hb dX12_count_120 (by decide) ?_
    exact x_iret C X hr hlk (v := (-1 : Int32)) (by first | rfl | decide) (()) [] (by decide) rfl (Or.inr (⟨rfl, by omega⟩)) (Nat.le_of_ble_eq_true rfl) (Nat.le_of_ble_eq_true rfl) dX12_count_121
set_option maxHeartbeats 4000000 in
set_option maxRecDepth 100000 in
theorem cm_restore (l : Launch) (D : va_G) (cI cJ cZ cB : ClassId) (cO : ClassId) (a : Nat → Nat) (p1 : Int32) :
    CI l D [(cI, .int), (cJ, .long), (cZ, .boolean), (cB, .byte), (cO, .object "LuckLinks$World")] yX12_restore cX12_restore 2 (some .boolean) ({ frames := 1, cells := 0, slots := 0, locals := 22 } : Room) [.ref (a 0), .int p1] [((a 0), .inr (12, (mF a))), ((a 13), .inl (cI, 3, .inl (fun _ => (0 : Int32))))] (fun (r : Int32) (u : Unit) => (r = (0 : Int32) ∧ True)) (fun (_ : Unit) => []) := by
  intro sz
  refine body_of (y := yX12_restore) (cc := cX12_restore) (maxL := 2) (ret := (some .boolean)) (rm := ({ frames := 1, cells := 0, slots := 0, locals := 22 } : Room)) (wc := [((a 0), .inr (12, (mF a))), ((a 13), .inl (cI, 3, .inl (fun _ => (0 : Int32))))]) (tys := [(cI, .int), (cJ, .long), (cZ, .boolean), (cB, .byte), (cO, .object "LuckLinks$World")]) (D := D) (sz := sz) (own := RX12) (av := [.ref (a 0), .int p1]) (Qc := fun A => va_Qi (fun (r : Int32) (u : Unit) => (r = (0 : Int32) ∧ True)) (fun u t => Aft D A ((fun (_ : Unit) => []) u) t) A) (by decide) rfl (Nat.le_of_ble_eq_true rfl) (fun p e s m below meth c A ls C hr hlk hin X hl => ?_)
  have hx := C.1
  have hb := C.2.1
  have hown := C.2.2.2.1
  have hts := C.2.2.2.2.1
  have hl : lv_has ls 2 [(0, .ref (a 0)), (1, .int p1)] := hl
  show W p l e _ s m _ below meth c s.heap [] 0 0 (MQ below (va_Qi (fun (r : Int32) (u : Unit) => (r = (0 : Int32) ∧ True)) (fun u t => Aft D A ((fun (_ : Unit) => []) u) t) A) ([.ref (a 0), .int p1] : List Value).toArray s 0 0 A) (F0 m 0 ls [])
  have X : Wd D A s [((a 0), .inr (12, (mF a))), ((a 13), .inl (cI, 3, .inl (fun _ => (0 : Int32))))] s.heap [] := X
  obtain ⟨H, locs, eH, eL⟩ : ∃ H locs, H = s.heap ∧ locs = ([] : List Loc) := ⟨_, _, rfl, rfl⟩
  rw [← eH, ← eL] at X ⊢
  clear eH eL
  refine lv_iload_n hx hb dX12_restore_0 rfl (lv_at hl 1 rfl) ?_
  refine lv_iconst (v := (0 : Int32)) hx hb dX12_restore_1 (by decide) ?_
  refine lv_aload_n hx hb dX12_restore_2 rfl (lv_at hl 0 rfl) ?_
  refine x_get (own := RX12) (T := TX12) C X 0 rfl rfl 12 (by decide) k_66_16 rfl rfl (v := .int (0 : Int32)) rfl dX12_restore_3 ?_
  refine lv_iconst (v := (1 : Int32)) hx hb dX12_restore_6 (by decide) ?_
  refine lv_isub hx hb dX12_restore_7 ?_
  refine x_eqi (show (0 : Int32) - (1 : Int32) = (-1 : Int32) from by decide +kernel) ?_
  refine x_cS (own := RX12) (wr := [((a 0), .inr (12, (mF a))), ((a 13), .inl (cI, 3, .inl (fun _ => (0 : Int32))))]) (As := [.int p1, .int (0 : Int32), .int (-1 : Int32)]) C X hl.1 (c_within l D cI cJ cZ cB cO p1 (0 : Int32) (-1 : Int32)) [] [0, 1] ⟨rfl, rfl, by decide, by decide, by decide⟩ k_12_23 k_13_0 k_1_5 k_13_1 (n := 3) (by decide +kernel) ⟨Nat.le_of_ble_eq_true rfl, Nat.le_of_ble_eq_true rfl⟩ rfl rfl (Nat.le_of_ble_eq_true rfl) dX12_restore_8 ⟨Nat.le_of_ble_eq_true rfl, Nat.le_of_ble_eq_true rfl⟩ (fun r_2 u_1 H locs w_3 X => ?_)
  have X : Wd D A s [((a 0), .inr (12, (mF a))), ((a 13), .inl (cI, 3, .inl (fun _ => (0 : Int32))))] H locs := X
  refine W.widen (k := 0) (n := 0) (Nat.le_of_ble_eq_true rfl) (Nat.le_of_ble_eq_true rfl) ?_
  obtain ⟨rfl, fw_3⟩ | ⟨rfl, fw_3⟩ : (r_2 = (1 : Int32) ∧ ((0 : Int) ≤ (p1).toInt ∧ (p1).toInt ≤ (-1 : Int))) ∨ (r_2 = (0 : Int32) ∧ ((p1).toInt < (0 : Int) ∨ (-1 : Int) < (p1).toInt)) := w_3
  · exfalso; omega
  · refine lv_if_ne (tgt := 19) hx hb dX12_restore_11 (by decide) (fun c0 => absurd (by decide) c0) (fun _ => ?_)
    refine lv_aload_n hx hb dX12_restore_14 rfl (lv_at hl 0 rfl) ?_
    refine x_cV (own := RX12) (wr := []) (As := []) C X hl.1 (cm_isNot l D cI cJ cZ cB cO a) [0, 1] [] ⟨rfl, rfl, by decide, by decide, by decide⟩ (qb := 0) rfl rfl k_14_14 k_14_15 k_14_16 k_1_5 k_14_17 (n := 0) (by decide +kernel) ⟨Nat.le_of_ble_eq_true rfl, Nat.le_of_ble_eq_true rfl⟩ rfl rfl (Nat.le_of_ble_eq_true rfl) dX12_restore_15 ⟨Nat.le_of_ble_eq_true rfl, Nat.le_of_ble_eq_true rfl⟩ (fun r_5 u_4 H locs w_6 X => ?_)
    have X : Wd D A s [] H locs := X
    refine W.widen (k := 0) (n := 0) (Nat.le_of_ble_eq_true rfl) (Nat.le_of_ble_eq_true rfl) ?_
    obtain ⟨rfl, fw_6⟩ : r_5 = (0 : Int32) ∧ True := w_6
    exact x_iret C X hr hlk (v := (0 : Int32)) (by first | rfl | decide) (()) [] (by decide) rfl (⟨rfl, trivial⟩) (Nat.le_of_ble_eq_true rfl) (Nat.le_of_ble_eq_true rfl) dX12_restore_18
set_option maxHeartbeats 4000000 in
set_option maxRecDepth 100000 in
theorem cm_feed (l : Launch) (D : va_G) (cI cJ cZ cB : ClassId) (cO : ClassId) (a : Nat → Nat) (p1 : Int32) (p2 : Int32) (p3 : Int32) (p4 : Int32) (p5 : Int32) :
    CI l D [(cI, .int), (cJ, .long), (cZ, .boolean), (cB, .byte), (cO, .object "LuckLinks$World")] yX12_feed cX12_feed 8 (some .int) ({ frames := 0, cells := 0, slots := 0, locals := 0 } : Room) [.ref (a 0), .int p1, .int p2, .int p3, .int p4, .int p5] [((a 0), .inr (12, (mF a))), ((a 35), .inl (cB, 700, .inl (fun _ => (0 : Int32))))] (fun (r : Int32) (u : Unit) => (r = (20 : Int32) ∧ True)) (fun (_ : Unit) => []) := by
  intro sz
  refine body_of (y := yX12_feed) (cc := cX12_feed) (maxL := 8) (ret := (some .int)) (rm := ({ frames := 0, cells := 0, slots := 0, locals := 0 } : Room)) (wc := [((a 0), .inr (12, (mF a))), ((a 35), .inl (cB, 700, .inl (fun _ => (0 : Int32))))]) (tys := [(cI, .int), (cJ, .long), (cZ, .boolean), (cB, .byte), (cO, .object "LuckLinks$World")]) (D := D) (sz := sz) (own := RX12) (av := [.ref (a 0), .int p1, .int p2, .int p3, .int p4, .int p5]) (Qc := fun A => va_Qi (fun (r : Int32) (u : Unit) => (r = (20 : Int32) ∧ True)) (fun u t => Aft D A ((fun (_ : Unit) => []) u) t) A) (by decide) rfl (Nat.le_of_ble_eq_true rfl) (fun p e s m below meth c A ls C hr hlk hin X hl => ?_)
  have hx := C.1
  have hb := C.2.1
  have hown := C.2.2.2.1
  have hts := C.2.2.2.2.1
  have hl : lv_has ls 8 [(0, .ref (a 0)), (1, .int p1), (2, .int p2), (3, .int p3), (4, .int p4), (5, .int p5)] := hl
  show W p l e _ s m _ below meth c s.heap [] 0 0 (MQ below (va_Qi (fun (r : Int32) (u : Unit) => (r = (20 : Int32) ∧ True)) (fun u t => Aft D A ((fun (_ : Unit) => []) u) t) A) ([.ref (a 0), .int p1, .int p2, .int p3, .int p4, .int p5] : List Value).toArray s 0 0 A) (F0 m 0 ls [])
  have X : Wd D A s [((a 0), .inr (12, (mF a))), ((a 35), .inl (cB, 700, .inl (fun _ => (0 : Int32))))] s.heap [] := X
  obtain ⟨H, locs, eH, eL⟩ : ∃ H locs, H = s.heap ∧ locs = ([] : List Loc) := ⟨_, _, rfl, rfl⟩
  rw [← eH, ← eL] at X ⊢
  clear eH eL
  refine lv_aload_n hx hb dX12_feed_0 rfl (lv_at hl 0 rfl) ?_
  refine x_get (own := RX12) (T := TX12) C X 0 rfl rfl 37 (by decide) k_18_11 rfl rfl (v := .int (0 : Int32)) rfl dX12_feed_1 ?_
  refine lv_bipush (v := (20 : Int32)) hx hb dX12_feed_4 (by decide) ?_
  refine lv_iadd hx hb dX12_feed_6 ?_
  refine x_eqi (show (0 : Int32) + (20 : Int32) = (20 : Int32) from by decide +kernel) ?_
  refine lv_sipush (v := (700 : Int32)) hx hb dX12_feed_7 (by decide) ?_
  refine lv_icmp_le (tgt := 15) hx hb dX12_feed_10 (by decide) (fun _ => ?_) (fun c0 => absurd (by decide) c0)
  refine lv_iconst (v := (0 : Int32)) hx hb dX12_feed_15 (by decide) ?_
  refine lv_istore (lv' := [(6, .int (0 : Int32)), (0, .ref (a 0)), (1, .int p1), (2, .int p2), (3, .int p3), (4, .int p4), (5, .int p5)]) hx hb dX12_feed_16 hl (by decide) rfl (fun ls hl => ?_)
  have L18 : ∀ (n : Nat) (i : Nat) (f : Nat → Int32) (H : Heap) (locs : List Loc) (ls : Array Slot), (h1 : i ≤ 20) → 20 < i + n → Wd D A s [((a 0), .inr (12, (mF a).set 37 (.int (nI (i))))), ((a 35), .inl (cB, 700, .inl (f)))] H locs → lv_has ls 8 [(6, .int (nI (i))), (0, .ref (a 0)), (1, .int p1), (2, .int p2), (3, .int p3), (4, .int p4), (5, .int p5)] → W p l e ({ frames := 0, cells := 0, slots := 0, locals := 0 } : Room) s m ([.ref (a 0), .int p1, .int p2, .int p3, .int p4, .int p5] : List Value).toArray below meth c H locs 0 0 (MQ below (va_Qi (fun (r : Int32) (u : Unit) => (r = (20 : Int32) ∧ True)) (fun u t => Aft D A ((fun (_ : Unit) => []) u) t) A) ([.ref (a 0), .int p1, .int p2, .int p3, .int p4, .int p5] : List Value).toArray s 0 0 A) (F0 m 18 ls []) := by
    intro n
    induction n with
    | zero => intro i f H locs ls h1 hn; exact absurd hn (by omega)
    | succ n ih =>
      intro i f H locs ls h1 hn X hl
      have ih18 := ih
      refine lv_iload hx hb dX12_feed_18 (lv_at hl 0 rfl) ?_
      refine lv_bipush (v := (20 : Int32)) hx hb dX12_feed_20 (by decide) ?_
      refine lv_icmp_ge (tgt := 112) hx hb dX12_feed_22 (by decide) (fun c_1 => ?_) (fun c_1 => ?_)
      · have fc_1 : (20 : Int) ≤ ((i : Nat) : Int) := (by have h9 := i_le c_1; simp only [nI_toInt (n := i) (by omega)] at h9; exact h9)
        obtain rfl : i = 20 := by omega
        have X : Wd D A s [((a 0), .inr (12, (mF a).set 37 (.int (20 : Int32)))), ((a 35), .inl (cB, 700, .inl (f)))] H locs := X
        have hl : lv_has ls 8 [(6, .int (20 : Int32)), (0, .ref (a 0)), (1, .int p1), (2, .int p2), (3, .int p3), (4, .int p4), (5, .int p5)] := hl
        refine lv_aload_n hx hb dX12_feed_112 rfl (lv_at hl 1 rfl) ?_
        refine x_get (own := RX12) (T := TX12) C X 0 rfl rfl 37 (by decide) k_18_11 rfl rfl (v := .int (20 : Int32)) rfl dX12_feed_113 ?_
        exact x_iret C X hr hlk (v := (20 : Int32)) (by first | rfl | decide) (()) [] (by decide) rfl (⟨rfl, trivial⟩) (Nat.le_of_ble_eq_true rfl) (Nat.le_of_ble_eq_true rfl) dX12_feed_116
      · have fc_1 : ((i : Nat) : Int) < (20 : Int) := (by have h9 := i_nle c_1; simp only [nI_toInt (n := i) (by omega)] at h9; exact h9)
        refine lv_iload hx hb dX12_feed_25 (lv_at hl 0 rfl) ?_
        refine lv_iconst (v := (4 : Int32)) hx hb dX12_feed_27 (by decide) ?_
        refine lv_icmp_ge (tgt := 35) hx hb dX12_feed_28 (by decide) (fun c_2 => ?_) (fun c_2 => ?_)
        · have fc_2 : (4 : Int) ≤ ((i : Nat) : Int) := (by have h9 := i_le c_2; simp only [nI_toInt (n := i) (by omega)] at h9; exact h9)
          refine lv_iload hx hb dX12_feed_35 (lv_at hl 0 rfl) ?_
          refine lv_bipush (v := (8 : Int32)) hx hb dX12_feed_37 (by decide) ?_
          refine lv_icmp_ge (tgt := 46) hx hb dX12_feed_39 (by decide) (fun c_3 => ?_) (fun c_3 => ?_)
          · have fc_3 : (8 : Int) ≤ ((i : Nat) : Int) := (by have h9 := i_le c_3; simp only [nI_toInt (n := i) (by omega)] at h9; exact h9)
            refine lv_iload hx hb dX12_feed_46 (lv_at hl 0 rfl) ?_
            refine lv_bipush (v := (12 : Int32)) hx hb dX12_feed_48 (by decide) ?_
            refine lv_icmp_ge (tgt := 57) hx hb dX12_feed_50 (by decide) (fun c_4 => ?_) (fun c_4 => ?_)
            · have fc_4 : (12 : Int) ≤ ((i : Nat) : Int) := (by have h9 := i_le c_4; simp only [nI_toInt (n := i) (by omega)] at h9; exact h9)
              refine lv_iload hx hb dX12_feed_57 (lv_at hl 0 rfl) ?_
              refine lv_bipush (v := (16 : Int32)) hx hb dX12_feed_59 (by decide) ?_
              refine lv_icmp_ge (tgt := 69) hx hb dX12_feed_61 (by decide) (fun c_5 => ?_) (fun c_5 => ?_)
              · have fc_5 : (16 : Int) ≤ ((i : Nat) : Int) := (by have h9 := i_le c_5; simp only [nI_toInt (n := i) (by omega)] at h9; exact h9)
                refine lv_iload hx hb dX12_feed_69 (lv_at hl 6 rfl) ?_
                refine lv_istore (lv' := [(7, .int p5), (6, .int (nI (i))), (0, .ref (a 0)), (1, .int p1), (2, .int p2), (3, .int p3), (4, .int p4), (5, .int p5)]) hx hb dX12_feed_71 hl (by decide) rfl (fun ls hl => ?_)
                refine lv_aload_n hx hb dX12_feed_73 rfl (lv_at hl 2 rfl) ?_
                refine x_get (own := RX12) (T := TX12) C X 0 rfl rfl 36 (by decide) k_11_3 rfl rfl (v := .ref (a 35)) rfl dX12_feed_74 ?_
                refine lv_aload_n hx hb dX12_feed_77 rfl (lv_at hl 2 rfl) ?_
                refine x_get (own := RX12) (T := TX12) C X 0 rfl rfl 37 (by decide) k_18_11 rfl rfl (v := .int (nI (i))) rfl dX12_feed_78 ?_
                refine lv_iload hx hb dX12_feed_81 (lv_at hl 0 rfl) ?_
                refine lv_bipush (v := (24 : Int32)) hx hb dX12_feed_83 (by decide) ?_
                refine lv_bipush (v := (8 : Int32)) hx hb dX12_feed_85 (by decide) ?_
                refine lv_iload hx hb dX12_feed_87 (lv_at hl 1 rfl) ?_
                refine lv_iconst (v := (4 : Int32)) hx hb dX12_feed_89 (by decide) ?_
                refine lv_irem hx hb dX12_feed_90 (by decide) ?_
                refine lv_imul hx hb dX12_feed_91 ?_
                refine lv_isub hx hb dX12_feed_92 ?_
                refine lv_ishr hx hb dX12_feed_93 ?_
                refine lv_i2b (v := ((p5 >>> (((24 : Int32) - ((8 : Int32) * ((nI (i)) - (nI (i)) / (4 : Int32) * (4 : Int32)))) &&& 31))).toInt8.toInt32) hx hb dX12_feed_94 rfl ?_
                refine x_bast C X 1 3 rfl rfl (j := i) (nI_clamp (by omega)) (vp_in_nI (by omega) (by omega)) dX12_feed_95 (fun H locs X => ?_)
                have X : Wd D A s [((a 0), .inr (12, (mF a).set 37 (.int (nI (i))))), ((a 35), .inl (cB, 700, .inl (upd (f) (i) (vp_nar .byte ((p5 >>> (((24 : Int32) - ((8 : Int32) * ((nI (i)) - (nI (i)) / (4 : Int32) * (4 : Int32)))) &&& 31))).toInt8.toInt32))))] H locs := X
                refine lv_aload_n hx hb dX12_feed_96 rfl (lv_at hl 2 rfl) ?_
                refine lv_dup hx hb dX12_feed_97 rfl ?_
                refine x_get (own := RX12) (T := TX12) C X 0 rfl rfl 37 (by decide) k_18_11 rfl rfl (v := .int (nI (i))) rfl dX12_feed_98 ?_
                refine lv_iconst (v := (1 : Int32)) hx hb dX12_feed_101 (by decide) ?_
                refine lv_iadd hx hb dX12_feed_102 ?_
                refine x_eqi (show (nI (i)) + (1 : Int32) = (nI (i + 1)) from nI_add i 1) ?_
                refine x_put (own := RX12) (T := TX12) C X 0 rfl rfl 37 (by decide) k_18_11 rfl rfl rfl (ty := .int) (v := .int (nI (i + 1))) (by decide +kernel) rfl rfl (Nat.le_of_ble_eq_true rfl) dX12_feed_103 (fun H locs X => ?_)
                have X : Wd D A s [((a 0), .inr (12, ((mF a).set 37 (.int (nI (i)))).set 37 (.int (nI (i + 1))))), ((a 35), .inl (cB, 700, .inl (upd (f) (i) (vp_nar .byte ((p5 >>> (((24 : Int32) - ((8 : Int32) * ((nI (i)) - (nI (i)) / (4 : Int32) * (4 : Int32)))) &&& 31))).toInt8.toInt32))))] H locs := X
                refine lv_iinc (v := (nI (i + 1))) (lv' := [(6, .int (nI (i + 1))), (7, .int p5), (0, .ref (a 0)), (1, .int p1), (2, .int p2), (3, .int p3), (4, .int p4), (5, .int p5)]) hx hb dX12_feed_106 hl (k := 1) rfl (nI_add _ 1) (by decide) rfl (fun ls hl => ?_)
                refine lv_goto (tgt := 18) hx hb dX12_feed_109 (by decide) ?_
                exact ih18  (i + 1) (upd (f) (i) (vp_nar .byte ((p5 >>> (((24 : Int32) - ((8 : Int32) * ((nI (i)) - (nI (i)) / (4 : Int32) * (4 : Int32)))) &&& 31))).toInt8.toInt32)) H locs ls (by omega) (by omega) (x_sub X [0, 1] (by decide) rfl) (lv_sub hl [0, 2, 3, 4, 5, 6, 7] rfl)
              · have fc_5 : ((i : Nat) : Int) < (16 : Int) := (by have h9 := i_nle c_5; simp only [nI_toInt (n := i) (by omega)] at h9; exact h9)
                refine lv_iload hx hb dX12_feed_64 (lv_at hl 5 rfl) ?_
                refine lv_goto (tgt := 71) hx hb dX12_feed_66 (by decide) ?_
                refine lv_istore (lv' := [(7, .int p4), (6, .int (nI (i))), (0, .ref (a 0)), (1, .int p1), (2, .int p2), (3, .int p3), (4, .int p4), (5, .int p5)]) hx hb dX12_feed_71 hl (by decide) rfl (fun ls hl => ?_)
                refine lv_aload_n hx hb dX12_feed_73 rfl (lv_at hl 2 rfl) ?_
                refine x_get (own := RX12) (T := TX12) C X 0 rfl rfl 36 (by decide) k_11_3 rfl rfl (v := .ref (a 35)) rfl dX12_feed_74 ?_
                refine lv_aload_n hx hb dX12_feed_77 rfl (lv_at hl 2 rfl) ?_
                refine x_get (own := RX12) (T := TX12) C X 0 rfl rfl 37 (by decide) k_18_11 rfl rfl (v := .int (nI (i))) rfl dX12_feed_78 ?_
                refine lv_iload hx hb dX12_feed_81 (lv_at hl 0 rfl) ?_
                refine lv_bipush (v := (24 : Int32)) hx hb dX12_feed_83 (by decide) ?_
                refine lv_bipush (v := (8 : Int32)) hx hb dX12_feed_85 (by decide) ?_
                refine lv_iload hx hb dX12_feed_87 (lv_at hl 1 rfl) ?_
                refine lv_iconst (v := (4 : Int32)) hx hb dX12_feed_89 (by decide) ?_
                refine lv_irem hx hb dX12_feed_90 (by decide) ?_
                refine lv_imul hx hb dX12_feed_91 ?_
                refine lv_isub hx hb dX12_feed_92 ?_
                refine lv_ishr hx hb dX12_feed_93 ?_
                refine lv_i2b (v := ((p4 >>> (((24 : Int32) - ((8 : Int32) * ((nI (i)) - (nI (i)) / (4 : Int32) * (4 : Int32)))) &&& 31))).toInt8.toInt32) hx hb dX12_feed_94 rfl ?_
                refine x_bast C X 1 3 rfl rfl (j := i) (nI_clamp (by omega)) (vp_in_nI (by omega) (by omega)) dX12_feed_95 (fun H locs X => ?_)
                have X : Wd D A s [((a 0), .inr (12, (mF a).set 37 (.int (nI (i))))), ((a 35), .inl (cB, 700, .inl (upd (f) (i) (vp_nar .byte ((p4 >>> (((24 : Int32) - ((8 : Int32) * ((nI (i)) - (nI (i)) / (4 : Int32) * (4 : Int32)))) &&& 31))).toInt8.toInt32))))] H locs := X
                refine lv_aload_n hx hb dX12_feed_96 rfl (lv_at hl 2 rfl) ?_
                refine lv_dup hx hb dX12_feed_97 rfl ?_
                refine x_get (own := RX12) (T := TX12) C X 0 rfl rfl 37 (by decide) k_18_11 rfl rfl (v := .int (nI (i))) rfl dX12_feed_98 ?_
                refine lv_iconst (v := (1 : Int32)) hx hb dX12_feed_101 (by decide) ?_
                refine lv_iadd hx hb dX12_feed_102 ?_
                refine x_eqi (show (nI (i)) + (1 : Int32) = (nI (i + 1)) from nI_add i 1) ?_
                refine x_put (own := RX12) (T := TX12) C X 0 rfl rfl 37 (by decide) k_18_11 rfl rfl rfl (ty := .int) (v := .int (nI (i + 1))) (by decide +kernel) rfl rfl (Nat.le_of_ble_eq_true rfl) dX12_feed_103 (fun H locs X => ?_)
                have X : Wd D A s [((a 0), .inr (12, ((mF a).set 37 (.int (nI (i)))).set 37 (.int (nI (i + 1))))), ((a 35), .inl (cB, 700, .inl (upd (f) (i) (vp_nar .byte ((p4 >>> (((24 : Int32) - ((8 : Int32) * ((nI (i)) - (nI (i)) / (4 : Int32) * (4 : Int32)))) &&& 31))).toInt8.toInt32))))] H locs := X
                refine lv_iinc (v := (nI (i + 1))) (lv' := [(6, .int (nI (i + 1))), (7, .int p4), (0, .ref (a 0)), (1, .int p1), (2, .int p2), (3, .int p3), (4, .int p4), (5, .int p5)]) hx hb dX12_feed_106 hl (k := 1) rfl (nI_add _ 1) (by decide) rfl (fun ls hl => ?_)
                refine lv_goto (tgt := 18) hx hb dX12_feed_109 (by decide) ?_
                exact ih18  (i + 1) (upd (f) (i) (vp_nar .byte ((p4 >>> (((24 : Int32) - ((8 : Int32) * ((nI (i)) - (nI (i)) / (4 : Int32) * (4 : Int32)))) &&& 31))).toInt8.toInt32)) H locs ls (by omega) (by omega) (x_sub X [0, 1] (by decide) rfl) (lv_sub hl [0, 2, 3, 4, 5, 6, 7] rfl)
            · have fc_4 : ((i : Nat) : Int) < (12 : Int) := (by have h9 := i_nle c_4; simp only [nI_toInt (n := i) (by omega)] at h9; exact h9)
              refine lv_iload_n hx hb dX12_feed_53 rfl (lv_at hl 4 rfl) ?_
              refine lv_goto (tgt := 71) hx hb dX12_feed_54 (by decide) ?_
              refine lv_istore (lv' := [(7, .int p3), (6, .int (nI (i))), (0, .ref (a 0)), (1, .int p1), (2, .int p2), (3, .int p3), (4, .int p4), (5, .int p5)]) hx hb dX12_feed_71 hl (by decide) rfl (fun ls hl => ?_)
              refine lv_aload_n hx hb dX12_feed_73 rfl (lv_at hl 2 rfl) ?_
              refine x_get (own := RX12) (T := TX12) C X 0 rfl rfl 36 (by decide) k_11_3 rfl rfl (v := .ref (a 35)) rfl dX12_feed_74 ?_
              refine lv_aload_n hx hb dX12_feed_77 rfl (lv_at hl 2 rfl) ?_
              refine x_get (own := RX12) (T := TX12) C X 0 rfl rfl 37 (by decide) k_18_11 rfl rfl (v := .int (nI (i))) rfl dX12_feed_78 ?_
              refine lv_iload hx hb dX12_feed_81 (lv_at hl 0 rfl) ?_
              refine lv_bipush (v := (24 : Int32)) hx hb dX12_feed_83 (by decide) ?_
              refine lv_bipush (v := (8 : Int32)) hx hb dX12_feed_85 (by decide) ?_
              refine lv_iload hx hb dX12_feed_87 (lv_at hl 1 rfl) ?_
              refine lv_iconst (v := (4 : Int32)) hx hb dX12_feed_89 (by decide) ?_
              refine lv_irem hx hb dX12_feed_90 (by decide) ?_
              refine lv_imul hx hb dX12_feed_91 ?_
              refine lv_isub hx hb dX12_feed_92 ?_
              refine lv_ishr hx hb dX12_feed_93 ?_
              refine lv_i2b (v := ((p3 >>> (((24 : Int32) - ((8 : Int32) * ((nI (i)) - (nI (i)) / (4 : Int32) * (4 : Int32)))) &&& 31))).toInt8.toInt32) hx hb dX12_feed_94 rfl ?_
              refine x_bast C X 1 3 rfl rfl (j := i) (nI_clamp (by omega)) (vp_in_nI (by omega) (by omega)) dX12_feed_95 (fun H locs X => ?_)
              have X : Wd D A s [((a 0), .inr (12, (mF a).set 37 (.int (nI (i))))), ((a 35), .inl (cB, 700, .inl (upd (f) (i) (vp_nar .byte ((p3 >>> (((24 : Int32) - ((8 : Int32) * ((nI (i)) - (nI (i)) / (4 : Int32) * (4 : Int32)))) &&& 31))).toInt8.toInt32))))] H locs := X
              refine lv_aload_n hx hb dX12_feed_96 rfl (lv_at hl 2 rfl) ?_
              refine lv_dup hx hb dX12_feed_97 rfl ?_
              refine x_get (own := RX12) (T := TX12) C X 0 rfl rfl 37 (by decide) k_18_11 rfl rfl (v := .int (nI (i))) rfl dX12_feed_98 ?_
              refine lv_iconst (v := (1 : Int32)) hx hb dX12_feed_101 (by decide) ?_
              refine lv_iadd hx hb dX12_feed_102 ?_
              refine x_eqi (show (nI (i)) + (1 : Int32) = (nI (i + 1)) from nI_add i 1) ?_
              refine x_put (own := RX12) (T := TX12) C X 0 rfl rfl 37 (by decide) k_18_11 rfl rfl rfl (ty := .int) (v := .int (nI (i + 1))) (by decide +kernel) rfl rfl (Nat.le_of_ble_eq_true rfl) dX12_feed_103 (fun H locs X => ?_)
              have X : Wd D A s [((a 0), .inr (12, ((mF a).set 37 (.int (nI (i)))).set 37 (.int (nI (i + 1))))), ((a 35), .inl (cB, 700, .inl (upd (f) (i) (vp_nar .byte ((p3 >>> (((24 : Int32) - ((8 : Int32) * ((nI (i)) - (nI (i)) / (4 : Int32) * (4 : Int32)))) &&& 31))).toInt8.toInt32))))] H locs := X
              refine lv_iinc (v := (nI (i + 1))) (lv' := [(6, .int (nI (i + 1))), (7, .int p3), (0, .ref (a 0)), (1, .int p1), (2, .int p2), (3, .int p3), (4, .int p4), (5, .int p5)]) hx hb dX12_feed_106 hl (k := 1) rfl (nI_add _ 1) (by decide) rfl (fun ls hl => ?_)
              refine lv_goto (tgt := 18) hx hb dX12_feed_109 (by decide) ?_
              exact ih18  (i + 1) (upd (f) (i) (vp_nar .byte ((p3 >>> (((24 : Int32) - ((8 : Int32) * ((nI (i)) - (nI (i)) / (4 : Int32) * (4 : Int32)))) &&& 31))).toInt8.toInt32)) H locs ls (by omega) (by omega) (x_sub X [0, 1] (by decide) rfl) (lv_sub hl [0, 2, 3, 4, 5, 6, 7] rfl)
          · have fc_3 : ((i : Nat) : Int) < (8 : Int) := (by have h9 := i_nle c_3; simp only [nI_toInt (n := i) (by omega)] at h9; exact h9)
            refine lv_iload_n hx hb dX12_feed_42 rfl (lv_at hl 3 rfl) ?_
            refine lv_goto (tgt := 71) hx hb dX12_feed_43 (by decide) ?_
            refine lv_istore (lv' := [(7, .int p2), (6, .int (nI (i))), (0, .ref (a 0)), (1, .int p1), (2, .int p2), (3, .int p3), (4, .int p4), (5, .int p5)]) hx hb dX12_feed_71 hl (by decide) rfl (fun ls hl => ?_)
            refine lv_aload_n hx hb dX12_feed_73 rfl (lv_at hl 2 rfl) ?_
            refine x_get (own := RX12) (T := TX12) C X 0 rfl rfl 36 (by decide) k_11_3 rfl rfl (v := .ref (a 35)) rfl dX12_feed_74 ?_
            refine lv_aload_n hx hb dX12_feed_77 rfl (lv_at hl 2 rfl) ?_
            refine x_get (own := RX12) (T := TX12) C X 0 rfl rfl 37 (by decide) k_18_11 rfl rfl (v := .int (nI (i))) rfl dX12_feed_78 ?_
            refine lv_iload hx hb dX12_feed_81 (lv_at hl 0 rfl) ?_
            refine lv_bipush (v := (24 : Int32)) hx hb dX12_feed_83 (by decide) ?_
            refine lv_bipush (v := (8 : Int32)) hx hb dX12_feed_85 (by decide) ?_
            refine lv_iload hx hb dX12_feed_87 (lv_at hl 1 rfl) ?_
            refine lv_iconst (v := (4 : Int32)) hx hb dX12_feed_89 (by decide) ?_
            refine lv_irem hx hb dX12_feed_90 (by decide) ?_
            refine lv_imul hx hb dX12_feed_91 ?_
            refine lv_isub hx hb dX12_feed_92 ?_
            refine lv_ishr hx hb dX12_feed_93 ?_
            refine lv_i2b (v := ((p2 >>> (((24 : Int32) - ((8 : Int32) * ((nI (i)) - (nI (i)) / (4 : Int32) * (4 : Int32)))) &&& 31))).toInt8.toInt32) hx hb dX12_feed_94 rfl ?_
            refine x_bast C X 1 3 rfl rfl (j := i) (nI_clamp (by omega)) (vp_in_nI (by omega) (by omega)) dX12_feed_95 (fun H locs X => ?_)
            have X : Wd D A s [((a 0), .inr (12, (mF a).set 37 (.int (nI (i))))), ((a 35), .inl (cB, 700, .inl (upd (f) (i) (vp_nar .byte ((p2 >>> (((24 : Int32) - ((8 : Int32) * ((nI (i)) - (nI (i)) / (4 : Int32) * (4 : Int32)))) &&& 31))).toInt8.toInt32))))] H locs := X
            refine lv_aload_n hx hb dX12_feed_96 rfl (lv_at hl 2 rfl) ?_
            refine lv_dup hx hb dX12_feed_97 rfl ?_
            refine x_get (own := RX12) (T := TX12) C X 0 rfl rfl 37 (by decide) k_18_11 rfl rfl (v := .int (nI (i))) rfl dX12_feed_98 ?_
            refine lv_iconst (v := (1 : Int32)) hx hb dX12_feed_101 (by decide) ?_
            refine lv_iadd hx hb dX12_feed_102 ?_
            refine x_eqi (show (nI (i)) + (1 : Int32) = (nI (i + 1)) from nI_add i 1) ?_
            refine x_put (own := RX12) (T := TX12) C X 0 rfl rfl 37 (by decide) k_18_11 rfl rfl rfl (ty := .int) (v := .int (nI (i + 1))) (by decide +kernel) rfl rfl (Nat.le_of_ble_eq_true rfl) dX12_feed_103 (fun H locs X => ?_)
            have X : Wd D A s [((a 0), .inr (12, ((mF a).set 37 (.int (nI (i)))).set 37 (.int (nI (i + 1))))), ((a 35), .inl (cB, 700, .inl (upd (f) (i) (vp_nar .byte ((p2 >>> (((24 : Int32) - ((8 : Int32) * ((nI (i)) - (nI (i)) / (4 : Int32) * (4 : Int32)))) &&& 31))).toInt8.toInt32))))] H locs := X
            refine lv_iinc (v := (nI (i + 1))) (lv' := [(6, .int (nI (i + 1))), (7, .int p2), (0, .ref (a 0)), (1, .int p1), (2, .int p2), (3, .int p3), (4, .int p4), (5, .int p5)]) hx hb dX12_feed_106 hl (k := 1) rfl (nI_add _ 1) (by decide) rfl (fun ls hl => ?_)
            refine lv_goto (tgt := 18) hx hb dX12_feed_109 (by decide) ?_
            exact ih18  (i + 1) (upd (f) (i) (vp_nar .byte ((p2 >>> (((24 : Int32) - ((8 : Int32) * ((nI (i)) - (nI (i)) / (4 : Int32) * (4 : Int32)))) &&& 31))).toInt8.toInt32)) H locs ls (by omega) (by omega) (x_sub X [0, 1] (by decide) rfl) (lv_sub hl [0, 2, 3, 4, 5, 6, 7] rfl)
        · have fc_2 : ((i : Nat) : Int) < (4 : Int) := (by have h9 := i_nle c_2; simp only [nI_toInt (n := i) (by omega)] at h9; exact h9)
          refine lv_iload_n hx hb dX12_feed_31 rfl (lv_at hl 2 rfl) ?_
          refine lv_goto (tgt := 71) hx hb dX12_feed_32 (by decide) ?_
          refine lv_istore (lv' := [(7, .int p1), (6, .int (nI (i))), (0, .ref (a 0)), (1, .int p1), (2, .int p2), (3, .int p3), (4, .int p4), (5, .int p5)]) hx hb dX12_feed_71 hl (by decide) rfl (fun ls hl => ?_)
          refine lv_aload_n hx hb dX12_feed_73 rfl (lv_at hl 2 rfl) ?_
          refine x_get (own := RX12) (T := TX12) C X 0 rfl rfl 36 (by decide) k_11_3 rfl rfl (v := .ref (a 35)) rfl dX12_feed_74 ?_
          refine lv_aload_n hx hb dX12_feed_77 rfl (lv_at hl 2 rfl) ?_
          refine x_get (own := RX12) (T := TX12) C X 0 rfl rfl 37 (by decide) k_18_11 rfl rfl (v := .int (nI (i))) rfl dX12_feed_78 ?_
          refine lv_iload hx hb dX12_feed_81 (lv_at hl 0 rfl) ?_
          refine lv_bipush (v := (24 : Int32)) hx hb dX12_feed_83 (by decide) ?_
          refine lv_bipush (v := (8 : Int32)) hx hb dX12_feed_85 (by decide) ?_
          refine lv_iload hx hb dX12_feed_87 (lv_at hl 1 rfl) ?_
          refine lv_iconst (v := (4 : Int32)) hx hb dX12_feed_89 (by decide) ?_
          refine lv_irem hx hb dX12_feed_90 (by decide) ?_
          refine lv_imul hx hb dX12_feed_91 ?_
          refine lv_isub hx hb dX12_feed_92 ?_
          refine lv_ishr hx hb dX12_feed_93 ?_
          refine lv_i2b (v := ((p1 >>> (((24 : Int32) - ((8 : Int32) * ((nI (i)) - (nI (i)) / (4 : Int32) * (4 : Int32)))) &&& 31))).toInt8.toInt32) hx hb dX12_feed_94 rfl ?_
          refine x_bast C X 1 3 rfl rfl (j := i) (nI_clamp (by omega)) (vp_in_nI (by omega) (by omega)) dX12_feed_95 (fun H locs X => ?_)
          have X : Wd D A s [((a 0), .inr (12, (mF a).set 37 (.int (nI (i))))), ((a 35), .inl (cB, 700, .inl (upd (f) (i) (vp_nar .byte ((p1 >>> (((24 : Int32) - ((8 : Int32) * ((nI (i)) - (nI (i)) / (4 : Int32) * (4 : Int32)))) &&& 31))).toInt8.toInt32))))] H locs := X
          refine lv_aload_n hx hb dX12_feed_96 rfl (lv_at hl 2 rfl) ?_
          refine lv_dup hx hb dX12_feed_97 rfl ?_
          refine x_get (own := RX12) (T := TX12) C X 0 rfl rfl 37 (by decide) k_18_11 rfl rfl (v := .int (nI (i))) rfl dX12_feed_98 ?_
          refine lv_iconst (v := (1 : Int32)) hx hb dX12_feed_101 (by decide) ?_
          refine lv_iadd hx hb dX12_feed_102 ?_
          refine x_eqi (show (nI (i)) + (1 : Int32) = (nI (i + 1)) from nI_add i 1) ?_
          refine x_put (own := RX12) (T := TX12) C X 0 rfl rfl 37 (by decide) k_18_11 rfl rfl rfl (ty := .int) (v := .int (nI (i + 1))) (by decide +kernel) rfl rfl (Nat.le_of_ble_eq_true rfl) dX12_feed_103 (fun H locs X => ?_)
          have X : Wd D A s [((a 0), .inr (12, ((mF a).set 37 (.int (nI (i)))).set 37 (.int (nI (i + 1))))), ((a 35), .inl (cB, 700, .inl (upd (f) (i) (vp_nar .byte ((p1 >>> (((24 : Int32) - ((8 : Int32) * ((nI (i)) - (nI (i)) / (4 : Int32) * (4 : Int32)))) &&& 31))).toInt8.toInt32))))] H locs := X
          refine lv_iinc (v := (nI (i + 1))) (lv' := [(6, .int (nI (i + 1))), (7, .int p1), (0, .ref (a 0)), (1, .int p1), (2, .int p2), (3, .int p3), (4, .int p4), (5, .int p5)]) hx hb dX12_feed_106 hl (k := 1) rfl (nI_add _ 1) (by decide) rfl (fun ls hl => ?_)
          refine lv_goto (tgt := 18) hx hb dX12_feed_109 (by decide) ?_
          exact ih18  (i + 1) (upd (f) (i) (vp_nar .byte ((p1 >>> (((24 : Int32) - ((8 : Int32) * ((nI (i)) - (nI (i)) / (4 : Int32) * (4 : Int32)))) &&& 31))).toInt8.toInt32)) H locs ls (by omega) (by omega) (x_sub X [0, 1] (by decide) rfl) (lv_sub hl [0, 2, 3, 4, 5, 6, 7] rfl)
  exact L18 (20 + 1) (0) (fun _ => (0 : Int32)) H locs ls (by omega) (by omega) (x_sub X [0, 1] (by decide) rfl) (lv_sub hl [0, 1, 2, 3, 4, 5, 6] rfl)
