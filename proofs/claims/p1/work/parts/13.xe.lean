theorem k_30_17 : Cond.fieldLink RX11 186 "LuckLinks$Law" "points" "[I" ∈ wsL_law := mr_30 _ (List.mem_of_getElem? (i := 17) rfl)
theorem k_31_18 : Cond.methodLink RX11 199 yJ6_bitCount_0f7a4 ∈ wsL_law := mr_31 _ (List.mem_of_getElem? (i := 18) rfl)
theorem k_31_19 : Cond.static yJ6_bitCount_0f7a4 ∈ wsL_law := mr_31 _ (List.mem_of_getElem? (i := 19) rfl)
theorem k_31_20 : Cond.initialized RJ6 ∈ wsL_law := mr_31 _ (List.mem_of_getElem? (i := 20) rfl)
theorem k_31_21 : Cond.code yJ6_bitCount_0f7a4 cJ6_bitCount_0f7a4 1 (some .int) ∈ wsL_law := mr_31 _ (List.mem_of_getElem? (i := 21) rfl)
theorem k_31_22 : Cond.constant RJ6 265 (1431655765) ∈ wsL_law := mr_31 _ (List.mem_of_getElem? (i := 22) rfl)
theorem k_31_23 : Cond.constant RJ6 266 (858993459) ∈ wsL_law := mr_31 _ (List.mem_of_getElem? (i := 23) rfl)
theorem k_32_0 : Cond.constant RJ6 267 (252645135) ∈ wsL_law := mr_32 _ (List.mem_of_getElem? (i := 0) rfl)
theorem k_55_10 : Cond.methodLink RX11 293 yX11_areHalves ∈ wsL_law := mr_55 _ (List.mem_of_getElem? (i := 10) rfl)
theorem k_55_11 : Cond.static yX11_areHalves ∈ wsL_law := mr_55 _ (List.mem_of_getElem? (i := 11) rfl)
theorem k_55_12 : Cond.code yX11_areHalves cX11_areHalves 3 (some .boolean) ∈ wsL_law := mr_55 _ (List.mem_of_getElem? (i := 12) rfl)
theorem k_55_13 : Cond.methodLink RX11 296 yX2_compareHalves ∈ wsL_law := mr_55 _ (List.mem_of_getElem? (i := 13) rfl)
theorem k_55_7 : Cond.fieldLink RX11 300 "LuckLinks$Halves" "alike" "I" ∈ wsL_law := mr_55 _ (List.mem_of_getElem? (i := 7) rfl)
theorem k_55_8 : Cond.fieldLink RX11 303 "LuckLinks$Halves" "unlike" "I" ∈ wsL_law := mr_55 _ (List.mem_of_getElem? (i := 8) rfl)
theorem k_55_9 : Cond.fieldLink RX11 306 "LuckLinks$Halves" "inBoth" "I" ∈ wsL_law := mr_55 _ (List.mem_of_getElem? (i := 9) rfl)
theorem k_57_13 : Cond.methodLink RX11 309 yX2_lastingPart ∈ wsL_law := mr_57 _ (List.mem_of_getElem? (i := 13) rfl)
theorem k_57_14 : Cond.instanceMethod yX2_lastingPart ∈ wsL_law := mr_57 _ (List.mem_of_getElem? (i := 14) rfl)
theorem k_57_15 : Cond.selects RX2 yX2_lastingPart yX2_lastingPart ∈ wsL_law := mr_57 _ (List.mem_of_getElem? (i := 15) rfl)
theorem k_57_16 : Cond.code yX2_lastingPart cX2_lastingPart 7 (some .int) ∈ wsL_law := mr_57 _ (List.mem_of_getElem? (i := 16) rfl)
theorem k_59_16 : Cond.methodLink RX11 319 yX7_firstOf ∈ wsL_law := mr_59 _ (List.mem_of_getElem? (i := 16) rfl)
theorem k_59_17 : Cond.instanceMethod yX7_firstOf ∈ wsL_law := mr_59 _ (List.mem_of_getElem? (i := 17) rfl)
theorem k_59_18 : Cond.selects RX7 yX7_firstOf yX7_firstOf ∈ wsL_law := mr_59 _ (List.mem_of_getElem? (i := 18) rfl)
theorem k_59_19 : Cond.code yX7_firstOf cX7_firstOf 8 (some .int) ∈ wsL_law := mr_59 _ (List.mem_of_getElem? (i := 19) rfl)
theorem dJ6_bitCount_0f7a4_0 : decode cJ6_bitCount_0f7a4 0 = .ok (.iload_n 0, 1) := by decide +kernel
theorem dJ6_bitCount_0f7a4_1 : decode cJ6_bitCount_0f7a4 1 = .ok (.iload_n 0, 1) := by decide +kernel
theorem dJ6_bitCount_0f7a4_2 : decode cJ6_bitCount_0f7a4 2 = .ok (.iconst 1, 1) := by decide +kernel
theorem dJ6_bitCount_0f7a4_3 : decode cJ6_bitCount_0f7a4 3 = .ok (.iushr, 1) := by decide +kernel
theorem dJ6_bitCount_0f7a4_4 : decode cJ6_bitCount_0f7a4 4 = .ok (.ldc_w 265, 3) := by decide +kernel
theorem dJ6_bitCount_0f7a4_7 : decode cJ6_bitCount_0f7a4 7 = .ok (.iand, 1) := by decide +kernel
theorem dJ6_bitCount_0f7a4_8 : decode cJ6_bitCount_0f7a4 8 = .ok (.isub, 1) := by decide +kernel
theorem dJ6_bitCount_0f7a4_9 : decode cJ6_bitCount_0f7a4 9 = .ok (.istore_n 0, 1) := by decide +kernel
theorem dJ6_bitCount_0f7a4_10 : decode cJ6_bitCount_0f7a4 10 = .ok (.iload_n 0, 1) := by decide +kernel
theorem dJ6_bitCount_0f7a4_11 : decode cJ6_bitCount_0f7a4 11 = .ok (.ldc_w 266, 3) := by decide +kernel
theorem dJ6_bitCount_0f7a4_14 : decode cJ6_bitCount_0f7a4 14 = .ok (.iand, 1) := by decide +kernel
theorem dJ6_bitCount_0f7a4_15 : decode cJ6_bitCount_0f7a4 15 = .ok (.iload_n 0, 1) := by decide +kernel
theorem dJ6_bitCount_0f7a4_16 : decode cJ6_bitCount_0f7a4 16 = .ok (.iconst 2, 1) := by decide +kernel
theorem dJ6_bitCount_0f7a4_17 : decode cJ6_bitCount_0f7a4 17 = .ok (.iushr, 1) := by decide +kernel
theorem dJ6_bitCount_0f7a4_18 : decode cJ6_bitCount_0f7a4 18 = .ok (.ldc_w 266, 3) := by decide +kernel
theorem dJ6_bitCount_0f7a4_21 : decode cJ6_bitCount_0f7a4 21 = .ok (.iand, 1) := by decide +kernel
theorem dJ6_bitCount_0f7a4_22 : decode cJ6_bitCount_0f7a4 22 = .ok (.iadd, 1) := by decide +kernel
theorem dJ6_bitCount_0f7a4_23 : decode cJ6_bitCount_0f7a4 23 = .ok (.istore_n 0, 1) := by decide +kernel
theorem dJ6_bitCount_0f7a4_24 : decode cJ6_bitCount_0f7a4 24 = .ok (.iload_n 0, 1) := by decide +kernel
theorem dJ6_bitCount_0f7a4_25 : decode cJ6_bitCount_0f7a4 25 = .ok (.iload_n 0, 1) := by decide +kernel
theorem dJ6_bitCount_0f7a4_26 : decode cJ6_bitCount_0f7a4 26 = .ok (.iconst 4, 1) := by decide +kernel
theorem dJ6_bitCount_0f7a4_27 : decode cJ6_bitCount_0f7a4 27 = .ok (.iushr, 1) := by decide +kernel
theorem dJ6_bitCount_0f7a4_28 : decode cJ6_bitCount_0f7a4 28 = .ok (.iadd, 1) := by decide +kernel
theorem dJ6_bitCount_0f7a4_29 : decode cJ6_bitCount_0f7a4 29 = .ok (.ldc_w 267, 3) := by decide +kernel
theorem dJ6_bitCount_0f7a4_32 : decode cJ6_bitCount_0f7a4 32 = .ok (.iand, 1) := by decide +kernel
theorem dJ6_bitCount_0f7a4_33 : decode cJ6_bitCount_0f7a4 33 = .ok (.istore_n 0, 1) := by decide +kernel
theorem dJ6_bitCount_0f7a4_34 : decode cJ6_bitCount_0f7a4 34 = .ok (.iload_n 0, 1) := by decide +kernel
theorem dJ6_bitCount_0f7a4_35 : decode cJ6_bitCount_0f7a4 35 = .ok (.iload_n 0, 1) := by decide +kernel
theorem dJ6_bitCount_0f7a4_36 : decode cJ6_bitCount_0f7a4 36 = .ok (.bipush 8, 2) := by decide +kernel
theorem dJ6_bitCount_0f7a4_38 : decode cJ6_bitCount_0f7a4 38 = .ok (.iushr, 1) := by decide +kernel
theorem dJ6_bitCount_0f7a4_39 : decode cJ6_bitCount_0f7a4 39 = .ok (.iadd, 1) := by decide +kernel
theorem dJ6_bitCount_0f7a4_40 : decode cJ6_bitCount_0f7a4 40 = .ok (.istore_n 0, 1) := by decide +kernel
theorem dJ6_bitCount_0f7a4_41 : decode cJ6_bitCount_0f7a4 41 = .ok (.iload_n 0, 1) := by decide +kernel
theorem dJ6_bitCount_0f7a4_42 : decode cJ6_bitCount_0f7a4 42 = .ok (.iload_n 0, 1) := by decide +kernel
theorem dJ6_bitCount_0f7a4_43 : decode cJ6_bitCount_0f7a4 43 = .ok (.bipush 16, 2) := by decide +kernel
theorem dJ6_bitCount_0f7a4_45 : decode cJ6_bitCount_0f7a4 45 = .ok (.iushr, 1) := by decide +kernel
theorem dJ6_bitCount_0f7a4_46 : decode cJ6_bitCount_0f7a4 46 = .ok (.iadd, 1) := by decide +kernel
theorem dJ6_bitCount_0f7a4_47 : decode cJ6_bitCount_0f7a4 47 = .ok (.istore_n 0, 1) := by decide +kernel
theorem dJ6_bitCount_0f7a4_48 : decode cJ6_bitCount_0f7a4 48 = .ok (.iload_n 0, 1) := by decide +kernel
theorem dJ6_bitCount_0f7a4_49 : decode cJ6_bitCount_0f7a4 49 = .ok (.bipush 63, 2) := by decide +kernel
theorem dJ6_bitCount_0f7a4_51 : decode cJ6_bitCount_0f7a4 51 = .ok (.iand, 1) := by decide +kernel
theorem dJ6_bitCount_0f7a4_52 : decode cJ6_bitCount_0f7a4 52 = .ok (.ireturn, 1) := by decide +kernel
theorem dX11_lasts_0 : decode cX11_lasts 0 = .ok (.iload_n 1, 1) := by decide +kernel
theorem dX11_lasts_1 : decode cX11_lasts 1 = .ok (.invokestatic 218, 3) := by decide +kernel
theorem dX11_lasts_4 : decode cX11_lasts 4 = .ok (.ifCond .eq 13, 3) := by decide +kernel
theorem dX11_lasts_7 : decode cX11_lasts 7 = .ok (.iload_n 2, 1) := by decide +kernel
theorem dX11_lasts_8 : decode cX11_lasts 8 = .ok (.iload_n 3, 1) := by decide +kernel
theorem dX11_lasts_9 : decode cX11_lasts 9 = .ok (.iload 4, 2) := by decide +kernel
theorem dX11_lasts_11 : decode cX11_lasts 11 = .ok (.invokestatic 293, 3) := by decide +kernel
theorem dX11_lasts_14 : decode cX11_lasts 14 = .ok (.ifCond .ne 5, 3) := by decide +kernel
theorem dX11_lasts_17 : decode cX11_lasts 17 = .ok (.iconst (-1), 1) := by decide +kernel
theorem dX11_lasts_18 : decode cX11_lasts 18 = .ok (.ireturn, 1) := by decide +kernel
theorem dX11_lasts_19 : decode cX11_lasts 19 = .ok (.aload_n 0, 1) := by decide +kernel
theorem dX11_lasts_20 : decode cX11_lasts 20 = .ok (.getfield 88, 3) := by decide +kernel
theorem dX11_lasts_23 : decode cX11_lasts 23 = .ok (.iload_n 1, 1) := by decide +kernel
theorem dX11_lasts_24 : decode cX11_lasts 24 = .ok (.iload_n 2, 1) := by decide +kernel
theorem dX11_lasts_25 : decode cX11_lasts 25 = .ok (.iload_n 3, 1) := by decide +kernel
theorem dX11_lasts_26 : decode cX11_lasts 26 = .ok (.iload 4, 2) := by decide +kernel
theorem dX11_lasts_28 : decode cX11_lasts 28 = .ok (.invokevirtual 296, 3) := by decide +kernel
theorem dX11_lasts_31 : decode cX11_lasts 31 = .ok (.iload 5, 2) := by decide +kernel
theorem dX11_lasts_33 : decode cX11_lasts 33 = .ok (.tableswitch 51 0 2 #[27, 35, 43], 27) := by decide +kernel
theorem dX11_lasts_60 : decode cX11_lasts 60 = .ok (.aload_n 0, 1) := by decide +kernel
theorem dX11_lasts_61 : decode cX11_lasts 61 = .ok (.getfield 88, 3) := by decide +kernel
theorem dX11_lasts_64 : decode cX11_lasts 64 = .ok (.getfield 300, 3) := by decide +kernel
theorem dX11_lasts_67 : decode cX11_lasts 67 = .ok (.ireturn, 1) := by decide +kernel
theorem dX11_lasts_68 : decode cX11_lasts 68 = .ok (.aload_n 0, 1) := by decide +kernel
theorem dX11_lasts_69 : decode cX11_lasts 69 = .ok (.getfield 88, 3) := by decide +kernel
theorem dX11_lasts_72 : decode cX11_lasts 72 = .ok (.getfield 303, 3) := by decide +kernel
theorem dX11_lasts_75 : decode cX11_lasts 75 = .ok (.ireturn, 1) := by decide +kernel
theorem dX11_lasts_76 : decode cX11_lasts 76 = .ok (.aload_n 0, 1) := by decide +kernel
theorem dX11_lasts_77 : decode cX11_lasts 77 = .ok (.getfield 88, 3) := by decide +kernel
theorem dX11_lasts_80 : decode cX11_lasts 80 = .ok (.getfield 306, 3) := by decide +kernel
theorem dX11_lasts_83 : decode cX11_lasts 83 = .ok (.ireturn, 1) := by decide +kernel
theorem dX11_lasts_84 : decode cX11_lasts 84 = .ok (.iconst (-1), 1) := by decide +kernel
theorem dX11_lasts_85 : decode cX11_lasts 85 = .ok (.ireturn, 1) := by decide +kernel
theorem dX11_line_0 : decode cX11_line 0 = .ok (.iload_n 1, 1) := by decide +kernel
theorem dX11_line_1 : decode cX11_line 1 = .ok (.iconst 1, 1) := by decide +kernel
theorem dX11_line_2 : decode cX11_line 2 = .ok (.bipush 20, 2) := by decide +kernel
theorem dX11_line_4 : decode cX11_line 4 = .ok (.invokestatic 131, 3) := by decide +kernel
theorem dX11_line_7 : decode cX11_line 7 = .ok (.ifCond .eq 11, 3) := by decide +kernel
theorem dX11_line_10 : decode cX11_line 10 = .ok (.iload_n 2, 1) := by decide +kernel
theorem dX11_line_11 : decode cX11_line 11 = .ok (.iload_n 3, 1) := by decide +kernel
theorem dX11_line_12 : decode cX11_line 12 = .ok (.invokestatic 227, 3) := by decide +kernel
theorem dX11_line_15 : decode cX11_line 15 = .ok (.ifCond .ne 5, 3) := by decide +kernel
theorem dX11_line_18 : decode cX11_line 18 = .ok (.iconst (-1), 1) := by decide +kernel
theorem dX11_line_19 : decode cX11_line 19 = .ok (.ireturn, 1) := by decide +kernel
theorem dX11_line_20 : decode cX11_line 20 = .ok (.aload_n 0, 1) := by decide +kernel
theorem dX11_line_21 : decode cX11_line 21 = .ok (.getfield 74, 3) := by decide +kernel
theorem dX11_line_24 : decode cX11_line 24 = .ok (.iload_n 2, 1) := by decide +kernel
theorem dX11_line_25 : decode cX11_line 25 = .ok (.iload_n 3, 1) := by decide +kernel
theorem dX11_line_26 : decode cX11_line 26 = .ok (.iconst 2, 1) := by decide +kernel
theorem dX11_line_27 : decode cX11_line 27 = .ok (.iload_n 1, 1) := by decide +kernel
theorem dX11_line_28 : decode cX11_line 28 = .ok (.aload_n 0, 1) := by decide +kernel
theorem dX11_line_29 : decode cX11_line 29 = .ok (.getfield 41, 3) := by decide +kernel
theorem dX11_line_32 : decode cX11_line 32 = .ok (.getfield 186, 3) := by decide +kernel
theorem dX11_line_35 : decode cX11_line 35 = .ok (.invokevirtual 319, 3) := by decide +kernel
theorem dX11_line_38 : decode cX11_line 38 = .ok (.istore 5, 2) := by decide +kernel
theorem dX11_line_40 : decode cX11_line 40 = .ok (.aload_n 0, 1) := by decide +kernel
theorem dX11_line_41 : decode cX11_line 41 = .ok (.getfield 74, 3) := by decide +kernel
theorem dX11_line_44 : decode cX11_line 44 = .ok (.iload_n 2, 1) := by decide +kernel
theorem dX11_line_45 : decode cX11_line 45 = .ok (.iload_n 3, 1) := by decide +kernel
theorem dX11_line_46 : decode cX11_line 46 = .ok (.iconst 0, 1) := by decide +kernel
theorem dX11_line_47 : decode cX11_line 47 = .ok (.iload_n 1, 1) := by decide +kernel
theorem dX11_line_48 : decode cX11_line 48 = .ok (.aload_n 0, 1) := by decide +kernel
theorem dX11_line_49 : decode cX11_line 49 = .ok (.getfield 41, 3) := by decide +kernel
theorem dX11_line_52 : decode cX11_line 52 = .ok (.getfield 186, 3) := by decide +kernel
theorem dX11_line_55 : decode cX11_line 55 = .ok (.invokevirtual 319, 3) := by decide +kernel
theorem dX11_line_58 : decode cX11_line 58 = .ok (.istore 6, 2) := by decide +kernel
theorem dX11_line_60 : decode cX11_line 60 = .ok (.aload_n 0, 1) := by decide +kernel
theorem dX11_line_61 : decode cX11_line 61 = .ok (.getfield 74, 3) := by decide +kernel
theorem dX11_line_64 : decode cX11_line 64 = .ok (.iload_n 2, 1) := by decide +kernel
theorem dX11_line_65 : decode cX11_line 65 = .ok (.iload_n 3, 1) := by decide +kernel
theorem dX11_line_66 : decode cX11_line 66 = .ok (.iconst 1, 1) := by decide +kernel
theorem dX11_line_67 : decode cX11_line 67 = .ok (.iload_n 1, 1) := by decide +kernel
theorem dX11_line_68 : decode cX11_line 68 = .ok (.aload_n 0, 1) := by decide +kernel
theorem dX11_line_69 : decode cX11_line 69 = .ok (.getfield 41, 3) := by decide +kernel
theorem dX11_line_72 : decode cX11_line 72 = .ok (.getfield 186, 3) := by decide +kernel
theorem dX11_line_75 : decode cX11_line 75 = .ok (.invokevirtual 319, 3) := by decide +kernel
theorem dX11_line_78 : decode cX11_line 78 = .ok (.istore 7, 2) := by decide +kernel
theorem dX11_line_80 : decode cX11_line 80 = .ok (.iload 4, 2) := by decide +kernel
theorem dX11_line_82 : decode cX11_line 82 = .ok (.tableswitch 64 0 2 #[26, 37, 48], 26) := by decide +kernel
theorem dX11_line_108 : decode cX11_line 108 = .ok (.iload 5, 2) := by decide +kernel
theorem dX11_line_110 : decode cX11_line 110 = .ok (.iload 6, 2) := by decide +kernel
theorem dX11_line_112 : decode cX11_line 112 = .ok (.iconst (-1), 1) := by decide +kernel
theorem dX11_line_113 : decode cX11_line 113 = .ok (.ixor, 1) := by decide +kernel
theorem dX11_line_114 : decode cX11_line 114 = .ok (.iand, 1) := by decide +kernel
theorem dX11_line_115 : decode cX11_line 115 = .ok (.invokestatic 199, 3) := by decide +kernel
theorem dX11_line_118 : decode cX11_line 118 = .ok (.ireturn, 1) := by decide +kernel
theorem dX11_line_119 : decode cX11_line 119 = .ok (.iload 5, 2) := by decide +kernel
theorem dX11_line_121 : decode cX11_line 121 = .ok (.iload 7, 2) := by decide +kernel
theorem dX11_line_123 : decode cX11_line 123 = .ok (.iconst (-1), 1) := by decide +kernel
theorem dX11_line_124 : decode cX11_line 124 = .ok (.ixor, 1) := by decide +kernel
theorem dX11_line_125 : decode cX11_line 125 = .ok (.iand, 1) := by decide +kernel
theorem dX11_line_126 : decode cX11_line 126 = .ok (.invokestatic 199, 3) := by decide +kernel
theorem dX11_line_129 : decode cX11_line 129 = .ok (.ireturn, 1) := by decide +kernel
theorem dX11_line_130 : decode cX11_line 130 = .ok (.iload 5, 2) := by decide +kernel
theorem dX11_line_132 : decode cX11_line 132 = .ok (.iload 6, 2) := by decide +kernel
theorem dX11_line_134 : decode cX11_line 134 = .ok (.iconst (-1), 1) := by decide +kernel
theorem dX11_line_135 : decode cX11_line 135 = .ok (.ixor, 1) := by decide +kernel
theorem dX11_line_136 : decode cX11_line 136 = .ok (.iand, 1) := by decide +kernel
theorem dX11_line_137 : decode cX11_line 137 = .ok (.iload 7, 2) := by decide +kernel
theorem dX11_line_139 : decode cX11_line 139 = .ok (.iconst (-1), 1) := by decide +kernel
theorem dX11_line_140 : decode cX11_line 140 = .ok (.ixor, 1) := by decide +kernel
theorem dX11_line_141 : decode cX11_line 141 = .ok (.iand, 1) := by decide +kernel
theorem dX11_line_142 : decode cX11_line 142 = .ok (.invokestatic 199, 3) := by decide +kernel
theorem dX11_line_145 : decode cX11_line 145 = .ok (.ireturn, 1) := by decide +kernel
theorem dX11_line_146 : decode cX11_line 146 = .ok (.iconst (-1), 1) := by decide +kernel
theorem dX11_line_147 : decode cX11_line 147 = .ok (.ireturn, 1) := by decide +kernel
theorem dX11_most_0 : decode cX11_most 0 = .ok (.iload_n 1, 1) := by decide +kernel
theorem dX11_most_1 : decode cX11_most 1 = .ok (.iload_n 2, 1) := by decide +kernel
theorem dX11_most_2 : decode cX11_most 2 = .ok (.iload_n 3, 1) := by decide +kernel
theorem dX11_most_3 : decode cX11_most 3 = .ok (.invokestatic 293, 3) := by decide +kernel
theorem dX11_most_6 : decode cX11_most 6 = .ok (.ifCond .eq 16, 3) := by decide +kernel
theorem dX11_most_9 : decode cX11_most 9 = .ok (.aload_n 0, 1) := by decide +kernel
theorem dX11_most_10 : decode cX11_most 10 = .ok (.getfield 88, 3) := by decide +kernel
theorem dX11_most_13 : decode cX11_most 13 = .ok (.iload_n 1, 1) := by decide +kernel
theorem dX11_most_14 : decode cX11_most 14 = .ok (.iload_n 2, 1) := by decide +kernel
theorem dX11_most_15 : decode cX11_most 15 = .ok (.iload_n 3, 1) := by decide +kernel
theorem dX11_most_16 : decode cX11_most 16 = .ok (.invokevirtual 309, 3) := by decide +kernel
theorem dX11_most_19 : decode cX11_most 19 = .ok (.goto 4, 3) := by decide +kernel
theorem dX11_most_22 : decode cX11_most 22 = .ok (.iconst (-1), 1) := by decide +kernel
theorem dX11_most_23 : decode cX11_most 23 = .ok (.ireturn, 1) := by decide +kernel
set_option maxHeartbeats 4000000 in
set_option maxRecDepth 100000 in
theorem cx_lasts (l : Launch) (D : va_G) (cI cJ cZ cB : ClassId) (cO : ClassId) (x : Nat → Nat) (p1 p2 p3 p4 p5 : Int32) :
    CI l D [(cI, .int), (cJ, .long), (cZ, .boolean), (cB, .byte), (cO, .object "LuckLinks$World")] yX11_lasts cX11_lasts 6 (some .int) ({ frames := 4, cells := 0, slots := 0, locals := 100 } : Room) [.ref (x 0), .int p1, .int p2, .int p3, .int p4, .int p5] [((x 0), .inr (11, [.ref (x 1), .ref (x 10), .int (0 : Int32), .ref (x 11), .int (0 : Int32), .ref (x 12), .ref (x 34), .ref (x 50), .int (-1 : Int32), .ref (x 66), .ref (x 67), .ref (x 68), .ref (x 76), .ref (x 81), .ref (x 84), .ref (x 89), .ref (x 97)])), ((x 84), .inr (2, [.ref (x 1), .ref (x 85), .ref (x 86), .ref (x 87), .ref (x 88), .int (0 : Int32), .int (0 : Int32), .int (0 : Int32)])), ((x 85), .inl (cJ, 20, .inr (.inl (fun _ => (0 : Int64))))), ((x 86), .inl (cJ, 20, .inr (.inl (fun _ => (0 : Int64))))), ((x 87), .inl (cJ, 20, .inr (.inl (fun _ => (0 : Int64))))), ((x 88), .inl (cJ, 20, .inr (.inl (fun _ => (0 : Int64))))), ((x 1), .inr (10, [.int (0 : Int32), .ref (x 2), .int (0 : Int32), .ref (x 3), .ref (x 4), .int (0 : Int32), .ref (x 5), .ref (x 6), .ref (x 7), .ref (x 8), .ref (x 9), .long (1 : Int64)])), ((x 5), .inl (cI, 3200, .inl (fun _ => (-1 : Int32))))] (fun (r : Int32) (u : Unit) => (r = (0 : Int32) ∧ (-1 ≤ p1.toInt ∧ p1.toInt ≤ 3 ∧ 0 ≤ p2.toInt ∧ p2.toInt < p3.toInt ∧ p3.toInt ≤ p4.toInt ∧ p4.toInt ≤ 39 ∧ 0 ≤ p5.toInt ∧ p5.toInt ≤ 2)) ∨ (r = (-1 : Int32) ∧ (p1.toInt < -1 ∨ 3 < p1.toInt ∨ p2.toInt < 0 ∨ p3.toInt ≤ p2.toInt ∨ p4.toInt < p3.toInt ∨ 39 < p4.toInt ∨ p5.toInt < 0 ∨ 2 < p5.toInt))) (fun (_ : Unit) => []) := by
  intro sz
  refine body_of (y := yX11_lasts) (cc := cX11_lasts) (maxL := 6) (ret := (some .int)) (rm := ({ frames := 4, cells := 0, slots := 0, locals := 100 } : Room)) (wc := [((x 0), .inr (11, [.ref (x 1), .ref (x 10), .int (0 : Int32), .ref (x 11), .int (0 : Int32), .ref (x 12), .ref (x 34), .ref (x 50), .int (-1 : Int32), .ref (x 66), .ref (x 67), .ref (x 68), .ref (x 76), .ref (x 81), .ref (x 84), .ref (x 89), .ref (x 97)])), ((x 84), .inr (2, [.ref (x 1), .ref (x 85), .ref (x 86), .ref (x 87), .ref (x 88), .int (0 : Int32), .int (0 : Int32), .int (0 : Int32)])), ((x 85), .inl (cJ, 20, .inr (.inl (fun _ => (0 : Int64))))), ((x 86), .inl (cJ, 20, .inr (.inl (fun _ => (0 : Int64))))), ((x 87), .inl (cJ, 20, .inr (.inl (fun _ => (0 : Int64))))), ((x 88), .inl (cJ, 20, .inr (.inl (fun _ => (0 : Int64))))), ((x 1), .inr (10, [.int (0 : Int32), .ref (x 2), .int (0 : Int32), .ref (x 3), .ref (x 4), .int (0 : Int32), .ref (x 5), .ref (x 6), .ref (x 7), .ref (x 8), .ref (x 9), .long (1 : Int64)])), ((x 5), .inl (cI, 3200, .inl (fun _ => (-1 : Int32))))]) (tys := [(cI, .int), (cJ, .long), (cZ, .boolean), (cB, .byte), (cO, .object "LuckLinks$World")]) (D := D) (sz := sz) (own := RX11) (av := [.ref (x 0), .int p1, .int p2, .int p3, .int p4, .int p5]) (Qc := fun A => va_Qi (fun (r : Int32) (u : Unit) => (r = (0 : Int32) ∧ (-1 ≤ p1.toInt ∧ p1.toInt ≤ 3 ∧ 0 ≤ p2.toInt ∧ p2.toInt < p3.toInt ∧ p3.toInt ≤ p4.toInt ∧ p4.toInt ≤ 39 ∧ 0 ≤ p5.toInt ∧ p5.toInt ≤ 2)) ∨ (r = (-1 : Int32) ∧ (p1.toInt < -1 ∨ 3 < p1.toInt ∨ p2.toInt < 0 ∨ p3.toInt ≤ p2.toInt ∨ p4.toInt < p3.toInt ∨ 39 < p4.toInt ∨ p5.toInt < 0 ∨ 2 < p5.toInt))) (fun u t => Aft D A ((fun (_ : Unit) => []) u) t) A) (by decide) rfl (Nat.le_of_ble_eq_true rfl) (fun p e s m below meth c A ls C hr hlk hin X hl => ?_)
  have hx := C.1
  have hb := C.2.1
  have hown := C.2.2.2.1
  have hts := C.2.2.2.2.1
  have hl : lv_has ls 6 [(0, .ref (x 0)), (1, .int p1), (2, .int p2), (3, .int p3), (4, .int p4), (5, .int p5)] := hl
  show W p l e _ s m _ below meth c s.heap [] 0 0 (MQ below (va_Qi (fun (r : Int32) (u : Unit) => (r = (0 : Int32) ∧ (-1 ≤ p1.toInt ∧ p1.toInt ≤ 3 ∧ 0 ≤ p2.toInt ∧ p2.toInt < p3.toInt ∧ p3.toInt ≤ p4.toInt ∧ p4.toInt ≤ 39 ∧ 0 ≤ p5.toInt ∧ p5.toInt ≤ 2)) ∨ (r = (-1 : Int32) ∧ (p1.toInt < -1 ∨ 3 < p1.toInt ∨ p2.toInt < 0 ∨ p3.toInt ≤ p2.toInt ∨ p4.toInt < p3.toInt ∨ 39 < p4.toInt ∨ p5.toInt < 0 ∨ 2 < p5.toInt))) (fun u t => Aft D A ((fun (_ : Unit) => []) u) t) A) ([.ref (x 0), .int p1, .int p2, .int p3, .int p4, .int p5] : List Value).toArray s 0 0 A) (F0 m 0 ls [])
  have X : Wd D A s [((x 0), .inr (11, [.ref (x 1), .ref (x 10), .int (0 : Int32), .ref (x 11), .int (0 : Int32), .ref (x 12), .ref (x 34), .ref (x 50), .int (-1 : Int32), .ref (x 66), .ref (x 67), .ref (x 68), .ref (x 76), .ref (x 81), .ref (x 84), .ref (x 89), .ref (x 97)])), ((x 84), .inr (2, [.ref (x 1), .ref (x 85), .ref (x 86), .ref (x 87), .ref (x 88), .int (0 : Int32), .int (0 : Int32), .int (0 : Int32)])), ((x 85), .inl (cJ, 20, .inr (.inl (fun _ => (0 : Int64))))), ((x 86), .inl (cJ, 20, .inr (.inl (fun _ => (0 : Int64))))), ((x 87), .inl (cJ, 20, .inr (.inl (fun _ => (0 : Int64))))), ((x 88), .inl (cJ, 20, .inr (.inl (fun _ => (0 : Int64))))), ((x 1), .inr (10, [.int (0 : Int32), .ref (x 2), .int (0 : Int32), .ref (x 3), .ref (x 4), .int (0 : Int32), .ref (x 5), .ref (x 6), .ref (x 7), .ref (x 8), .ref (x 9), .long (1 : Int64)])), ((x 5), .inl (cI, 3200, .inl (fun _ => (-1 : Int32))))] s.heap [] := X
  obtain ⟨H, locs, eH, eL⟩ : ∃ H locs, H = s.heap ∧ locs = ([] : List Loc) := ⟨_, _, rfl, rfl⟩
  rw [← eH, ← eL] at X ⊢
  clear eH eL
  refine lv_iload_n hx hb dX11_lasts_0 rfl (lv_at hl 1 rfl) ?_
  refine x_cS (own := RX11) (wr := [((x 0), .inr (11, [.ref (x 1), .ref (x 10), .int (0 : Int32), .ref (x 11), .int (0 : Int32), .ref (x 12), .ref (x 34), .ref (x 50), .int (-1 : Int32), .ref (x 66), .ref (x 67), .ref (x 68), .ref (x 76), .ref (x 81), .ref (x 84), .ref (x 89), .ref (x 97)])), ((x 84), .inr (2, [.ref (x 1), .ref (x 85), .ref (x 86), .ref (x 87), .ref (x 88), .int (0 : Int32), .int (0 : Int32), .int (0 : Int32)])), ((x 85), .inl (cJ, 20, .inr (.inl (fun _ => (0 : Int64))))), ((x 86), .inl (cJ, 20, .inr (.inl (fun _ => (0 : Int64))))), ((x 87), .inl (cJ, 20, .inr (.inl (fun _ => (0 : Int64))))), ((x 88), .inl (cJ, 20, .inr (.inl (fun _ => (0 : Int64))))), ((x 1), .inr (10, [.int (0 : Int32), .ref (x 2), .int (0 : Int32), .ref (x 3), .ref (x 4), .int (0 : Int32), .ref (x 5), .ref (x 6), .ref (x 7), .ref (x 8), .ref (x 9), .long (1 : Int64)])), ((x 5), .inl (cI, 3200, .inl (fun _ => (-1 : Int32))))]) (As := [.int p1]) C X hl.1 (c_isPart l D cI cJ cZ cB cO p1) [] [0, 1, 2, 3, 4, 5, 6, 7] ⟨rfl, rfl, by decide, by decide, by decide⟩ k_38_15 k_38_16 k_1_2 k_38_17 (n := 1) (by decide +kernel) ⟨Nat.le_of_ble_eq_true rfl, Nat.le_of_ble_eq_true rfl⟩ rfl rfl (Nat.le_of_ble_eq_true rfl) dX11_lasts_1 ⟨Nat.le_of_ble_eq_true rfl, Nat.le_of_ble_eq_true rfl⟩ (fun r_2 u_1 H locs w_3 X => ?_)
  have X : Wd D A s [((x 0), .inr (11, [.ref (x 1), .ref (x 10), .int (0 : Int32), .ref (x 11), .int (0 : Int32), .ref (x 12), .ref (x 34), .ref (x 50), .int (-1 : Int32), .ref (x 66), .ref (x 67), .ref (x 68), .ref (x 76), .ref (x 81), .ref (x 84), .ref (x 89), .ref (x 97)])), ((x 84), .inr (2, [.ref (x 1), .ref (x 85), .ref (x 86), .ref (x 87), .ref (x 88), .int (0 : Int32), .int (0 : Int32), .int (0 : Int32)])), ((x 85), .inl (cJ, 20, .inr (.inl (fun _ => (0 : Int64))))), ((x 86), .inl (cJ, 20, .inr (.inl (fun _ => (0 : Int64))))), ((x 87), .inl (cJ, 20, .inr (.inl (fun _ => (0 : Int64))))), ((x 88), .inl (cJ, 20, .inr (.inl (fun _ => (0 : Int64))))), ((x 1), .inr (10, [.int (0 : Int32), .ref (x 2), .int (0 : Int32), .ref (x 3), .ref (x 4), .int (0 : Int32), .ref (x 5), .ref (x 6), .ref (x 7), .ref (x 8), .ref (x 9), .long (1 : Int64)])), ((x 5), .inl (cI, 3200, .inl (fun _ => (-1 : Int32))))] H locs := X
  refine W.widen (k := 0) (n := 0) (Nat.le_of_ble_eq_true rfl) (Nat.le_of_ble_eq_true rfl) ?_
  obtain ⟨rfl, fw_3⟩ | ⟨rfl, fw_3⟩ : (r_2 = (1 : Int32) ∧ (-1 ≤ (p1).toInt ∧ (p1).toInt ≤ 3)) ∨ (r_2 = (0 : Int32) ∧ ((p1).toInt < -1 ∨ 3 < (p1).toInt)) := w_3
  · refine lv_if_eq (tgt := 17) hx hb dX11_lasts_4 (by decide) (fun c0 => absurd c0 (by decide)) (fun _ => ?_)
    refine lv_iload_n hx hb dX11_lasts_7 rfl (lv_at hl 2 rfl) ?_
    refine lv_iload_n hx hb dX11_lasts_8 rfl (lv_at hl 3 rfl) ?_
    refine lv_iload hx hb dX11_lasts_9 (lv_at hl 4 rfl) ?_
    refine x_cS (own := RX11) (wr := [((x 0), .inr (11, [.ref (x 1), .ref (x 10), .int (0 : Int32), .ref (x 11), .int (0 : Int32), .ref (x 12), .ref (x 34), .ref (x 50), .int (-1 : Int32), .ref (x 66), .ref (x 67), .ref (x 68), .ref (x 76), .ref (x 81), .ref (x 84), .ref (x 89), .ref (x 97)])), ((x 84), .inr (2, [.ref (x 1), .ref (x 85), .ref (x 86), .ref (x 87), .ref (x 88), .int (0 : Int32), .int (0 : Int32), .int (0 : Int32)])), ((x 85), .inl (cJ, 20, .inr (.inl (fun _ => (0 : Int64))))), ((x 86), .inl (cJ, 20, .inr (.inl (fun _ => (0 : Int64))))), ((x 87), .inl (cJ, 20, .inr (.inl (fun _ => (0 : Int64))))), ((x 88), .inl (cJ, 20, .inr (.inl (fun _ => (0 : Int64))))), ((x 1), .inr (10, [.int (0 : Int32), .ref (x 2), .int (0 : Int32), .ref (x 3), .ref (x 4), .int (0 : Int32), .ref (x 5), .ref (x 6), .ref (x 7), .ref (x 8), .ref (x 9), .long (1 : Int64)])), ((x 5), .inl (cI, 3200, .inl (fun _ => (-1 : Int32))))]) (As := [.int p2, .int p3, .int p4]) C X hl.1 (c_areHalves l D cI cJ cZ cB cO p2 p3 p4) [] [0, 1, 2, 3, 4, 5, 6, 7] ⟨rfl, rfl, by decide, by decide, by decide⟩ k_55_10 k_55_11 k_1_2 k_55_12 (n := 3) (by decide +kernel) ⟨Nat.le_of_ble_eq_true rfl, Nat.le_of_ble_eq_true rfl⟩ rfl rfl (Nat.le_of_ble_eq_true rfl) dX11_lasts_11 ⟨Nat.le_of_ble_eq_true rfl, Nat.le_of_ble_eq_true rfl⟩ (fun r_5 u_4 H locs w_6 X => ?_)
    have X : Wd D A s [((x 0), .inr (11, [.ref (x 1), .ref (x 10), .int (0 : Int32), .ref (x 11), .int (0 : Int32), .ref (x 12), .ref (x 34), .ref (x 50), .int (-1 : Int32), .ref (x 66), .ref (x 67), .ref (x 68), .ref (x 76), .ref (x 81), .ref (x 84), .ref (x 89), .ref (x 97)])), ((x 84), .inr (2, [.ref (x 1), .ref (x 85), .ref (x 86), .ref (x 87), .ref (x 88), .int (0 : Int32), .int (0 : Int32), .int (0 : Int32)])), ((x 85), .inl (cJ, 20, .inr (.inl (fun _ => (0 : Int64))))), ((x 86), .inl (cJ, 20, .inr (.inl (fun _ => (0 : Int64))))), ((x 87), .inl (cJ, 20, .inr (.inl (fun _ => (0 : Int64))))), ((x 88), .inl (cJ, 20, .inr (.inl (fun _ => (0 : Int64))))), ((x 1), .inr (10, [.int (0 : Int32), .ref (x 2), .int (0 : Int32), .ref (x 3), .ref (x 4), .int (0 : Int32), .ref (x 5), .ref (x 6), .ref (x 7), .ref (x 8), .ref (x 9), .long (1 : Int64)])), ((x 5), .inl (cI, 3200, .inl (fun _ => (-1 : Int32))))] H locs := X
    refine W.widen (k := 0) (n := 0) (Nat.le_of_ble_eq_true rfl) (Nat.le_of_ble_eq_true rfl) ?_
    obtain ⟨rfl, fw_6⟩ | ⟨rfl, fw_6⟩ : (r_5 = (1 : Int32) ∧ (0 ≤ (p2).toInt ∧ (p2).toInt < (p3).toInt ∧ (p3).toInt ≤ (p4).toInt ∧ (p4).toInt ≤ 39)) ∨ (r_5 = (0 : Int32) ∧ ((p2).toInt < 0 ∨ (p3).toInt ≤ (p2).toInt ∨ (p4).toInt < (p3).toInt ∨ 39 < (p4).toInt)) := w_6
    · refine lv_if_ne (tgt := 19) hx hb dX11_lasts_14 (by decide) (fun _ => ?_) (fun c0 => absurd c0 (by decide))
      obtain ⟨j2, hj2, hqj2⟩ := i_ex (x := p2) 40 (by omega) (by omega)
      have ej2 : p2.toInt = (j2 : Int) := by rw [hqj2]; exact nI_toInt (by omega)
      rw [hqj2] at hl
      have hl : lv_has ls 6 [(0, .ref (x 0)), (1, .int p1), (2, .int (nI (j2))), (3, .int p3), (4, .int p4), (5, .int p5)] := hl
      obtain ⟨j3, hj3, hqj3⟩ := i_ex (x := p3) 40 (by omega) (by omega)
      have ej3 : p3.toInt = (j3 : Int) := by rw [hqj3]; exact nI_toInt (by omega)
      rw [hqj3] at hl
      have hl : lv_has ls 6 [(0, .ref (x 0)), (1, .int p1), (2, .int (nI (j2))), (3, .int (nI (j3))), (4, .int p4), (5, .int p5)] := hl
      obtain ⟨j4, hj4, hqj4⟩ := i_ex (x := p4) 40 (by omega) (by omega)
      have ej4 : p4.toInt = (j4 : Int) := by rw [hqj4]; exact nI_toInt (by omega)
      rw [hqj4] at hl
      have hl : lv_has ls 6 [(0, .ref (x 0)), (1, .int p1), (2, .int (nI (j2))), (3, .int (nI (j3))), (4, .int (nI (j4))), (5, .int p5)] := hl
      refine lv_aload_n hx hb dX11_lasts_19 rfl (lv_at hl 0 rfl) ?_
      refine x_get (own := RX11) (T := TX11) C X 0 rfl rfl 14 (by decide) k_3_4 rfl rfl (v := .ref (x 84)) rfl dX11_lasts_20 ?_
      refine lv_iload_n hx hb dX11_lasts_23 rfl (lv_at hl 1 rfl) ?_
      refine lv_iload_n hx hb dX11_lasts_24 rfl (lv_at hl 2 rfl) ?_
      refine lv_iload_n hx hb dX11_lasts_25 rfl (lv_at hl 3 rfl) ?_
      refine lv_iload hx hb dX11_lasts_26 (lv_at hl 4 rfl) ?_
      refine x_cVv (own := RX11) (wr := [((x 0), .inr (11, [.ref (x 1), .ref (x 10), .int (0 : Int32), .ref (x 11), .int (0 : Int32), .ref (x 12), .ref (x 34), .ref (x 50), .int (-1 : Int32), .ref (x 66), .ref (x 67), .ref (x 68), .ref (x 76), .ref (x 81), .ref (x 84), .ref (x 89), .ref (x 97)]))]) (As := [.int p1, .int (nI (j2)), .int (nI (j3)), .int (nI (j4))]) C X hl.1 (c_compareHalves l D cI cJ cZ cB cO (fun k => x (k + 84)) (fun k => x (k + 1)) p1 j2 j3 j4 (by omega) (by omega) (by omega)) [1, 2, 3, 4, 5, 6, 7] [0] ⟨rfl, rfl, by decide, by decide, by decide⟩ (qb := 0) rfl rfl k_55_13 k_55_14 k_55_15 k_3_3 k_55_16 (n := 4) (by decide +kernel) ⟨Nat.le_of_ble_eq_true rfl, Nat.le_of_ble_eq_true rfl⟩ rfl rfl (Nat.le_of_ble_eq_true rfl) dX11_lasts_28 ⟨Nat.le_of_ble_eq_true rfl, Nat.le_of_ble_eq_true rfl⟩ (fun u_7 H locs w_9 X => ?_)
      have X : Wd D A s [((x 0), .inr (11, [.ref (x 1), .ref (x 10), .int (0 : Int32), .ref (x 11), .int (0 : Int32), .ref (x 12), .ref (x 34), .ref (x 50), .int (-1 : Int32), .ref (x 66), .ref (x 67), .ref (x 68), .ref (x 76), .ref (x 81), .ref (x 84), .ref (x 89), .ref (x 97)])), ((x 84), .inr (2, [.ref (x 1), .ref (x 85), .ref (x 86), .ref (x 87), .ref (x 88), .int (0 : Int32), .int (0 : Int32), .int (0 : Int32)])), ((x 85), .inl (cJ, 20, .inr (.inl (fun _ => (0 : Int64))))), ((x 86), .inl (cJ, 20, .inr (.inl (fun _ => (0 : Int64))))), ((x 87), .inl (cJ, 20, .inr (.inl (fun _ => (0 : Int64))))), ((x 88), .inl (cJ, 20, .inr (.inl (fun _ => (0 : Int64))))), ((x 1), .inr (10, [.int (0 : Int32), .ref (x 2), .int (0 : Int32), .ref (x 3), .ref (x 4), .int (0 : Int32), .ref (x 5), .ref (x 6), .ref (x 7), .ref (x 8), .ref (x 9), .long (1 : Int64)])), ((x 5), .inl (cI, 3200, .inl (fun _ => (-1 : Int32))))] H locs := X
      refine W.widen (k := 0) (n := 0) (Nat.le_of_ble_eq_true rfl) (Nat.le_of_ble_eq_true rfl) ?_
      refine lv_iload hx hb dX11_lasts_31 (lv_at hl 5 rfl) ?_
      by_cases e_9 : p5 = (0 : Int32)
      · refine lv_tableIn (off := 27) (tgt := 60) hx hb dX11_lasts_33 (by rw [e_9]; decide) (by rw [e_9]; decide) (by rw [e_9]; rfl) (by decide) ?_
        have fe_9 : (p5).toInt = 0 := i_eq e_9
        refine lv_aload_n hx hb dX11_lasts_60 rfl (lv_at hl 0 rfl) ?_
        refine x_get (own := RX11) (T := TX11) C X 0 rfl rfl 14 (by decide) k_3_4 rfl rfl (v := .ref (x 84)) rfl dX11_lasts_61 ?_
        refine x_get (own := RX11) (T := TX2) C X 1 rfl rfl 5 (by decide) k_55_7 rfl rfl (v := .int (0 : Int32)) rfl dX11_lasts_64 ?_
        exact x_iret C X hr hlk (v := (0 : Int32)) (by first | rfl | decide) (()) [] (by decide) rfl (Or.inl (⟨rfl, (by  omega)⟩)) (Nat.le_of_ble_eq_true rfl) (Nat.le_of_ble_eq_true rfl) dX11_lasts_67
      by_cases e_10 : p5 = (1 : Int32)
      · refine lv_tableIn (off := 35) (tgt := 68) hx hb dX11_lasts_33 (by rw [e_10]; decide) (by rw [e_10]; decide) (by rw [e_10]; rfl) (by decide) ?_
        have fe_10 : (p5).toInt = 1 := i_eq e_10
        refine lv_aload_n hx hb dX11_lasts_68 rfl (lv_at hl 0 rfl) ?_
        refine x_get (own := RX11) (T := TX11) C X 0 rfl rfl 14 (by decide) k_3_4 rfl rfl (v := .ref (x 84)) rfl dX11_lasts_69 ?_
        refine x_get (own := RX11) (T := TX2) C X 1 rfl rfl 6 (by decide) k_55_8 rfl rfl (v := .int (0 : Int32)) rfl dX11_lasts_72 ?_
        exact x_iret C X hr hlk (v := (0 : Int32)) (by first | rfl | decide) (()) [] (by decide) rfl (Or.inl (⟨rfl, (by  omega)⟩)) (Nat.le_of_ble_eq_true rfl) (Nat.le_of_ble_eq_true rfl) dX11_lasts_75
      by_cases e_11 : p5 = (2 : Int32)
      · refine lv_tableIn (off := 43) (tgt := 76) hx hb dX11_lasts_33 (by rw [e_11]; decide) (by rw [e_11]; decide) (by rw [e_11]; rfl) (by decide) ?_
        have fe_11 : (p5).toInt = 2 := i_eq e_11
        refine lv_aload_n hx hb dX11_lasts_76 rfl (lv_at hl 0 rfl) ?_
        refine x_get (own := RX11) (T := TX11) C X 0 rfl rfl 14 (by decide) k_3_4 rfl rfl (v := .ref (x 84)) rfl dX11_lasts_77 ?_
        refine x_get (own := RX11) (T := TX2) C X 1 rfl rfl 7 (by decide) k_55_9 rfl rfl (v := .int (0 : Int32)) rfl dX11_lasts_80 ?_
        exact x_iret C X hr hlk (v := (0 : Int32)) (by first | rfl | decide) (()) [] (by decide) rfl (Or.inl (⟨rfl, (by  omega)⟩)) (Nat.le_of_ble_eq_true rfl) (Nat.le_of_ble_eq_true rfl) dX11_lasts_83
      refine lv_tableOut (tgt := 84) hx hb dX11_lasts_33 (by have g0 := i_ne (x := p5) (y := (0 : Int32)) (by assumption); have g0 : (p5).toInt ≠ 0 := g0; have g1 := i_ne (x := p5) (y := (1 : Int32)) (by assumption); have g1 : (p5).toInt ≠ 1 := g1; have g2 := i_ne (x := p5) (y := (2 : Int32)) (by assumption); have g2 : (p5).toInt ≠ 2 := g2; omega) (by decide) ?_
      have ge_12_0 : (p5).toInt ≠ 0 := i_ne (x := p5) (y := (0 : Int32)) (by assumption)
      have ge_12_1 : (p5).toInt ≠ 1 := i_ne (x := p5) (y := (1 : Int32)) (by assumption)
      have ge_12_2 : (p5).toInt ≠ 2 := i_ne (x := p5) (y := (2 : Int32)) (by assumption)
      refine lv_iconst (v := (-1 : Int32)) hx hb dX11_lasts_84 (by decide) ?_
      exact x_iret C X hr hlk (v := (-1 : Int32)) (by first | rfl | decide) (()) [] (by decide) rfl (Or.inr (⟨rfl, (by omega)⟩)) (Nat.le_of_ble_eq_true rfl) (Nat.le_of_ble_eq_true rfl) dX11_lasts_85
    · refine lv_if_ne (tgt := 19) hx hb dX11_lasts_14 (by decide) (fun c0 => absurd (by decide) c0) (fun _ => ?_)
      refine lv_iconst (v := (-1 : Int32)) hx hb dX11_lasts_17 (by decide) ?_
      exact x_iret C X hr hlk (v := (-1 : Int32)) (by first | rfl | decide) (()) [] (by decide) rfl (Or.inr (⟨rfl, by omega⟩)) (Nat.le_of_ble_eq_true rfl) (Nat.le_of_ble_eq_true rfl) dX11_lasts_18
  · refine lv_if_eq (tgt := 17) hx hb dX11_lasts_4 (by decide) (fun _ => ?_) (fun c0 => absurd (by decide) c0)
    refine lv_iconst (v := (-1 : Int32)) hx hb dX11_lasts_17 (by decide) ?_
    exact x_iret C X hr hlk (v := (-1 : Int32)) (by first | rfl | decide) (()) [] (by decide) rfl (Or.inr (⟨rfl, by omega⟩)) (Nat.le_of_ble_eq_true rfl) (Nat.le_of_ble_eq_true rfl) dX11_lasts_18
set_option maxHeartbeats 4000000 in
set_option maxRecDepth 100000 in
theorem cx_most (l : Launch) (D : va_G) (cI cJ cZ cB : ClassId) (cO : ClassId) (x : Nat → Nat) (p1 p2 p3 : Int32) :
    CI l D [(cI, .int), (cJ, .long), (cZ, .boolean), (cB, .byte), (cO, .object "LuckLinks$World")] yX11_most cX11_most 4 (some .int) ({ frames := 5, cells := 0, slots := 0, locals := 126 } : Room) [.ref (x 0), .int p1, .int p2, .int p3] [((x 0), .inr (11, [.ref (x 1), .ref (x 10), .int (0 : Int32), .ref (x 11), .int (0 : Int32), .ref (x 12), .ref (x 34), .ref (x 50), .int (-1 : Int32), .ref (x 66), .ref (x 67), .ref (x 68), .ref (x 76), .ref (x 81), .ref (x 84), .ref (x 89), .ref (x 97)])), ((x 84), .inr (2, [.ref (x 1), .ref (x 85), .ref (x 86), .ref (x 87), .ref (x 88), .int (0 : Int32), .int (0 : Int32), .int (0 : Int32)])), ((x 85), .inl (cJ, 20, .inr (.inl (fun _ => (0 : Int64))))), ((x 86), .inl (cJ, 20, .inr (.inl (fun _ => (0 : Int64))))), ((x 87), .inl (cJ, 20, .inr (.inl (fun _ => (0 : Int64))))), ((x 88), .inl (cJ, 20, .inr (.inl (fun _ => (0 : Int64))))), ((x 1), .inr (10, [.int (0 : Int32), .ref (x 2), .int (0 : Int32), .ref (x 3), .ref (x 4), .int (0 : Int32), .ref (x 5), .ref (x 6), .ref (x 7), .ref (x 8), .ref (x 9), .long (1 : Int64)])), ((x 5), .inl (cI, 3200, .inl (fun _ => (-1 : Int32))))] (fun (r : Int32) (u : Unit) => (r = (0 : Int32) ∧ (0 ≤ p1.toInt ∧ p1.toInt < p2.toInt ∧ p2.toInt ≤ p3.toInt ∧ p3.toInt ≤ 39)) ∨ (r = (-1 : Int32) ∧ (p1.toInt < 0 ∨ p2.toInt ≤ p1.toInt ∨ p3.toInt < p2.toInt ∨ 39 < p3.toInt))) (fun (_ : Unit) => []) := by
  intro sz
  refine body_of (y := yX11_most) (cc := cX11_most) (maxL := 4) (ret := (some .int)) (rm := ({ frames := 5, cells := 0, slots := 0, locals := 126 } : Room)) (wc := [((x 0), .inr (11, [.ref (x 1), .ref (x 10), .int (0 : Int32), .ref (x 11), .int (0 : Int32), .ref (x 12), .ref (x 34), .ref (x 50), .int (-1 : Int32), .ref (x 66), .ref (x 67), .ref (x 68), .ref (x 76), .ref (x 81), .ref (x 84), .ref (x 89), .ref (x 97)])), ((x 84), .inr (2, [.ref (x 1), .ref (x 85), .ref (x 86), .ref (x 87), .ref (x 88), .int (0 : Int32), .int (0 : Int32), .int (0 : Int32)])), ((x 85), .inl (cJ, 20, .inr (.inl (fun _ => (0 : Int64))))), ((x 86), .inl (cJ, 20, .inr (.inl (fun _ => (0 : Int64))))), ((x 87), .inl (cJ, 20, .inr (.inl (fun _ => (0 : Int64))))), ((x 88), .inl (cJ, 20, .inr (.inl (fun _ => (0 : Int64))))), ((x 1), .inr (10, [.int (0 : Int32), .ref (x 2), .int (0 : Int32), .ref (x 3), .ref (x 4), .int (0 : Int32), .ref (x 5), .ref (x 6), .ref (x 7), .ref (x 8), .ref (x 9), .long (1 : Int64)])), ((x 5), .inl (cI, 3200, .inl (fun _ => (-1 : Int32))))]) (tys := [(cI, .int), (cJ, .long), (cZ, .boolean), (cB, .byte), (cO, .object "LuckLinks$World")]) (D := D) (sz := sz) (own := RX11) (av := [.ref (x 0), .int p1, .int p2, .int p3]) (Qc := fun A => va_Qi (fun (r : Int32) (u : Unit) => (r = (0 : Int32) ∧ (0 ≤ p1.toInt ∧ p1.toInt < p2.toInt ∧ p2.toInt ≤ p3.toInt ∧ p3.toInt ≤ 39)) ∨ (r = (-1 : Int32) ∧ (p1.toInt < 0 ∨ p2.toInt ≤ p1.toInt ∨ p3.toInt < p2.toInt ∨ 39 < p3.toInt))) (fun u t => Aft D A ((fun (_ : Unit) => []) u) t) A) (by decide) rfl (Nat.le_of_ble_eq_true rfl) (fun p e s m below meth c A ls C hr hlk hin X hl => ?_)
  have hx := C.1
  have hb := C.2.1
  have hown := C.2.2.2.1
  have hts := C.2.2.2.2.1
  have hl : lv_has ls 4 [(0, .ref (x 0)), (1, .int p1), (2, .int p2), (3, .int p3)] := hl
  show W p l e _ s m _ below meth c s.heap [] 0 0 (MQ below (va_Qi (fun (r : Int32) (u : Unit) => (r = (0 : Int32) ∧ (0 ≤ p1.toInt ∧ p1.toInt < p2.toInt ∧ p2.toInt ≤ p3.toInt ∧ p3.toInt ≤ 39)) ∨ (r = (-1 : Int32) ∧ (p1.toInt < 0 ∨ p2.toInt ≤ p1.toInt ∨ p3.toInt < p2.toInt ∨ 39 < p3.toInt))) (fun u t => Aft D A ((fun (_ : Unit) => []) u) t) A) ([.ref (x 0), .int p1, .int p2, .int p3] : List Value).toArray s 0 0 A) (F0 m 0 ls [])
  have X : Wd D A s [((x 0), .inr (11, [.ref (x 1), .ref (x 10), .int (0 : Int32), .ref (x 11), .int (0 : Int32), .ref (x 12), .ref (x 34), .ref (x 50), .int (-1 : Int32), .ref (x 66), .ref (x 67), .ref (x 68), .ref (x 76), .ref (x 81), .ref (x 84), .ref (x 89), .ref (x 97)])), ((x 84), .inr (2, [.ref (x 1), .ref (x 85), .ref (x 86), .ref (x 87), .ref (x 88), .int (0 : Int32), .int (0 : Int32), .int (0 : Int32)])), ((x 85), .inl (cJ, 20, .inr (.inl (fun _ => (0 : Int64))))), ((x 86), .inl (cJ, 20, .inr (.inl (fun _ => (0 : Int64))))), ((x 87), .inl (cJ, 20, .inr (.inl (fun _ => (0 : Int64))))), ((x 88), .inl (cJ, 20, .inr (.inl (fun _ => (0 : Int64))))), ((x 1), .inr (10, [.int (0 : Int32), .ref (x 2), .int (0 : Int32), .ref (x 3), .ref (x 4), .int (0 : Int32), .ref (x 5), .ref (x 6), .ref (x 7), .ref (x 8), .ref (x 9), .long (1 : Int64)])), ((x 5), .inl (cI, 3200, .inl (fun _ => (-1 : Int32))))] s.heap [] := X
  obtain ⟨H, locs, eH, eL⟩ : ∃ H locs, H = s.heap ∧ locs = ([] : List Loc) := ⟨_, _, rfl, rfl⟩
  rw [← eH, ← eL] at X ⊢
  clear eH eL
  refine lv_iload_n hx hb dX11_most_0 rfl (lv_at hl 1 rfl) ?_
  refine lv_iload_n hx hb dX11_most_1 rfl (lv_at hl 2 rfl) ?_
  refine lv_iload_n hx hb dX11_most_2 rfl (lv_at hl 3 rfl) ?_
  refine x_cS (own := RX11) (wr := [((x 0), .inr (11, [.ref (x 1), .ref (x 10), .int (0 : Int32), .ref (x 11), .int (0 : Int32), .ref (x 12), .ref (x 34), .ref (x 50), .int (-1 : Int32), .ref (x 66), .ref (x 67), .ref (x 68), .ref (x 76), .ref (x 81), .ref (x 84), .ref (x 89), .ref (x 97)])), ((x 84), .inr (2, [.ref (x 1), .ref (x 85), .ref (x 86), .ref (x 87), .ref (x 88), .int (0 : Int32), .int (0 : Int32), .int (0 : Int32)])), ((x 85), .inl (cJ, 20, .inr (.inl (fun _ => (0 : Int64))))), ((x 86), .inl (cJ, 20, .inr (.inl (fun _ => (0 : Int64))))), ((x 87), .inl (cJ, 20, .inr (.inl (fun _ => (0 : Int64))))), ((x 88), .inl (cJ, 20, .inr (.inl (fun _ => (0 : Int64))))), ((x 1), .inr (10, [.int (0 : Int32), .ref (x 2), .int (0 : Int32), .ref (x 3), .ref (x 4), .int (0 : Int32), .ref (x 5), .ref (x 6), .ref (x 7), .ref (x 8), .ref (x 9), .long (1 : Int64)])), ((x 5), .inl (cI, 3200, .inl (fun _ => (-1 : Int32))))]) (As := [.int p1, .int p2, .int p3]) C X hl.1 (c_areHalves l D cI cJ cZ cB cO p1 p2 p3) [] [0, 1, 2, 3, 4, 5, 6, 7] ⟨rfl, rfl, by decide, by decide, by decide⟩ k_55_10 k_55_11 k_1_2 k_55_12 (n := 3) (by decide +kernel) ⟨Nat.le_of_ble_eq_true rfl, Nat.le_of_ble_eq_true rfl⟩ rfl rfl (Nat.le_of_ble_eq_true rfl) dX11_most_3 ⟨Nat.le_of_ble_eq_true rfl, Nat.le_of_ble_eq_true rfl⟩ (fun r_2 u_1 H locs w_3 X => ?_)
  have X : Wd D A s [((x 0), .inr (11, [.ref (x 1), .ref (x 10), .int (0 : Int32), .ref (x 11), .int (0 : Int32), .ref (x 12), .ref (x 34), .ref (x 50), .int (-1 : Int32), .ref (x 66), .ref (x 67), .ref (x 68), .ref (x 76), .ref (x 81), .ref (x 84), .ref (x 89), .ref (x 97)])), ((x 84), .inr (2, [.ref (x 1), .ref (x 85), .ref (x 86), .ref (x 87), .ref (x 88), .int (0 : Int32), .int (0 : Int32), .int (0 : Int32)])), ((x 85), .inl (cJ, 20, .inr (.inl (fun _ => (0 : Int64))))), ((x 86), .inl (cJ, 20, .inr (.inl (fun _ => (0 : Int64))))), ((x 87), .inl (cJ, 20, .inr (.inl (fun _ => (0 : Int64))))), ((x 88), .inl (cJ, 20, .inr (.inl (fun _ => (0 : Int64))))), ((x 1), .inr (10, [.int (0 : Int32), .ref (x 2), .int (0 : Int32), .ref (x 3), .ref (x 4), .int (0 : Int32), .ref (x 5), .ref (x 6), .ref (x 7), .ref (x 8), .ref (x 9), .long (1 : Int64)])), ((x 5), .inl (cI, 3200, .inl (fun _ => (-1 : Int32))))] H locs := X
  refine W.widen (k := 0) (n := 0) (Nat.le_of_ble_eq_true rfl) (Nat.le_of_ble_eq_true rfl) ?_
  obtain ⟨rfl, fw_3⟩ | ⟨rfl, fw_3⟩ : (r_2 = (1 : Int32) ∧ (0 ≤ (p1).toInt ∧ (p1).toInt < (p2).toInt ∧ (p2).toInt ≤ (p3).toInt ∧ (p3).toInt ≤ 39)) ∨ (r_2 = (0 : Int32) ∧ ((p1).toInt < 0 ∨ (p2).toInt ≤ (p1).toInt ∨ (p3).toInt < (p2).toInt ∨ 39 < (p3).toInt)) := w_3
  · refine lv_if_eq (tgt := 22) hx hb dX11_most_6 (by decide) (fun c0 => absurd c0 (by decide)) (fun _ => ?_)
    obtain ⟨j1, hj1, hqj1⟩ := i_ex (x := p1) 40 (by omega) (by omega)
    have ej1 : p1.toInt = (j1 : Int) := by rw [hqj1]; exact nI_toInt (by omega)
    rw [hqj1] at hl
    have hl : lv_has ls 4 [(0, .ref (x 0)), (1, .int (nI (j1))), (2, .int p2), (3, .int p3)] := hl
    obtain ⟨j2, hj2, hqj2⟩ := i_ex (x := p2) 40 (by omega) (by omega)
    have ej2 : p2.toInt = (j2 : Int) := by rw [hqj2]; exact nI_toInt (by omega)
    rw [hqj2] at hl
    have hl : lv_has ls 4 [(0, .ref (x 0)), (1, .int (nI (j1))), (2, .int (nI (j2))), (3, .int p3)] := hl
    obtain ⟨j3, hj3, hqj3⟩ := i_ex (x := p3) 40 (by omega) (by omega)
    have ej3 : p3.toInt = (j3 : Int) := by rw [hqj3]; exact nI_toInt (by omega)
    rw [hqj3] at hl
    have hl : lv_has ls 4 [(0, .ref (x 0)), (1, .int (nI (j1))), (2, .int (nI (j2))), (3, .int (nI (j3)))] := hl
    refine lv_aload_n hx hb dX11_most_9 rfl (lv_at hl 0 rfl) ?_
    refine x_get (own := RX11) (T := TX11) C X 0 rfl rfl 14 (by decide) k_3_4 rfl rfl (v := .ref (x 84)) rfl dX11_most_10 ?_
    refine lv_iload_n hx hb dX11_most_13 rfl (lv_at hl 1 rfl) ?_
    refine lv_iload_n hx hb dX11_most_14 rfl (lv_at hl 2 rfl) ?_
    refine lv_iload_n hx hb dX11_most_15 rfl (lv_at hl 3 rfl) ?_
    refine x_cV (own := RX11) (wr := [((x 0), .inr (11, [.ref (x 1), .ref (x 10), .int (0 : Int32), .ref (x 11), .int (0 : Int32), .ref (x 12), .ref (x 34), .ref (x 50), .int (-1 : Int32), .ref (x 66), .ref (x 67), .ref (x 68), .ref (x 76), .ref (x 81), .ref (x 84), .ref (x 89), .ref (x 97)]))]) (As := [.int (nI (j1)), .int (nI (j2)), .int (nI (j3))]) C X hl.1 (c_lastingPart l D cI cJ cZ cB cO (fun k => x (k + 84)) (fun k => x (k + 1)) j1 j2 j3 (by omega) (by omega) (by omega)) [1, 2, 3, 4, 5, 6, 7] [0] ⟨rfl, rfl, by decide, by decide, by decide⟩ (qb := 0) rfl rfl k_57_13 k_57_14 k_57_15 k_3_3 k_57_16 (n := 3) (by decide +kernel) ⟨Nat.le_of_ble_eq_true rfl, Nat.le_of_ble_eq_true rfl⟩ rfl rfl (Nat.le_of_ble_eq_true rfl) dX11_most_16 ⟨Nat.le_of_ble_eq_true rfl, Nat.le_of_ble_eq_true rfl⟩ (fun r_5 u_4 H locs w_6 X => ?_)
    have X : Wd D A s [((x 0), .inr (11, [.ref (x 1), .ref (x 10), .int (0 : Int32), .ref (x 11), .int (0 : Int32), .ref (x 12), .ref (x 34), .ref (x 50), .int (-1 : Int32), .ref (x 66), .ref (x 67), .ref (x 68), .ref (x 76), .ref (x 81), .ref (x 84), .ref (x 89), .ref (x 97)]))] H locs := X
    refine W.widen (k := 0) (n := 0) (Nat.le_of_ble_eq_true rfl) (Nat.le_of_ble_eq_true rfl) ?_
    obtain ⟨rfl, fw_6⟩ : r_5 = (0 : Int32) ∧ True := w_6
    refine lv_goto (tgt := 23) hx hb dX11_most_19 (by decide) ?_
    exact x_iret C X hr hlk (v := (0 : Int32)) (by first | rfl | decide) (()) [] (by decide) rfl (Or.inl (⟨rfl, (by  omega)⟩)) (Nat.le_of_ble_eq_true rfl) (Nat.le_of_ble_eq_true rfl) dX11_most_23
  · refine lv_if_eq (tgt := 22) hx hb dX11_most_6 (by decide) (fun _ => ?_) (fun c0 => absurd (by decide) c0)
    refine lv_iconst (v := (-1 : Int32)) hx hb dX11_most_22 (by decide) ?_
    exact x_iret C X hr hlk (v := (-1 : Int32)) (by first | rfl | decide) (()) [] (by decide) rfl (Or.inr (⟨rfl, (by omega)⟩)) (Nat.le_of_ble_eq_true rfl) (Nat.le_of_ble_eq_true rfl) dX11_most_23
set_option maxHeartbeats 4000000 in
set_option maxRecDepth 100000 in
theorem c_bitCount0 (l : Launch) (D : va_G) (cI cJ cZ cB : ClassId) (cO : ClassId) :
    CI l D [(cI, .int), (cJ, .long), (cZ, .boolean), (cB, .byte), (cO, .object "LuckLinks$World")] yJ6_bitCount_0f7a4 cJ6_bitCount_0f7a4 1 (some .int) ({ frames := 0, cells := 0, slots := 0, locals := 0 } : Room) [.int (0 : Int32)] [] (fun (r : Int32) (u : Unit) => (r = (0 : Int32) ∧ True)) (fun (_ : Unit) => []) := by
  intro sz
  refine body_of (y := yJ6_bitCount_0f7a4) (cc := cJ6_bitCount_0f7a4) (maxL := 1) (ret := (some .int)) (rm := ({ frames := 0, cells := 0, slots := 0, locals := 0 } : Room)) (wc := []) (tys := [(cI, .int), (cJ, .long), (cZ, .boolean), (cB, .byte), (cO, .object "LuckLinks$World")]) (D := D) (sz := sz) (own := RJ6) (av := [.int (0 : Int32)]) (Qc := fun A => va_Qi (fun (r : Int32) (u : Unit) => (r = (0 : Int32) ∧ True)) (fun u t => Aft D A ((fun (_ : Unit) => []) u) t) A) (by decide) rfl (Nat.le_of_ble_eq_true rfl) (fun p e s m below meth c A ls C hr hlk hin X hl => ?_)
  have hx := C.1
  have hb := C.2.1
  have hown := C.2.2.2.1
  have hts := C.2.2.2.2.1
  have hl : lv_has ls 1 [(0, .int (0 : Int32))] := hl
  show W p l e _ s m _ below meth c s.heap [] 0 0 (MQ below (va_Qi (fun (r : Int32) (u : Unit) => (r = (0 : Int32) ∧ True)) (fun u t => Aft D A ((fun (_ : Unit) => []) u) t) A) ([.int (0 : Int32)] : List Value).toArray s 0 0 A) (F0 m 0 ls [])
  have X : Wd D A s [] s.heap [] := X
  obtain ⟨H, locs, eH, eL⟩ : ∃ H locs, H = s.heap ∧ locs = ([] : List Loc) := ⟨_, _, rfl, rfl⟩
  rw [← eH, ← eL] at X ⊢
  clear eH eL
  refine lv_iload_n hx hb dJ6_bitCount_0f7a4_0 rfl (lv_at hl 0 rfl) ?_
  refine lv_iload_n hx hb dJ6_bitCount_0f7a4_1 rfl (lv_at hl 0 rfl) ?_
  refine lv_iconst (v := (1 : Int32)) hx hb dJ6_bitCount_0f7a4_2 (by decide) ?_
  refine lv_iushr hx hb dJ6_bitCount_0f7a4_3 rfl ?_
  refine x_eqi (show ((0 : Int32).toUInt32 >>> ((1 : Int32).toUInt32 &&& Int32.toUInt32 31)).toInt32 = (0 : Int32) from by decide +kernel) ?_
  refine lv_ldcw (own := RJ6) (v := (1431655765 : Int32)) hx hb hown (hts _ k_31_22) dJ6_bitCount_0f7a4_4 ?_
  refine lv_iand hx hb dJ6_bitCount_0f7a4_7 ?_
  refine x_eqi (show (0 : Int32) &&& (1431655765 : Int32) = (0 : Int32) from by decide +kernel) ?_
  refine lv_isub hx hb dJ6_bitCount_0f7a4_8 ?_
  refine x_eqi (show (0 : Int32) - (0 : Int32) = (0 : Int32) from by decide +kernel) ?_
  refine lv_istore_n (lv' := [(0, .int (0 : Int32))]) hx hb dJ6_bitCount_0f7a4_9 rfl hl (by decide) rfl (fun ls hl => ?_)
  refine lv_iload_n hx hb dJ6_bitCount_0f7a4_10 rfl (lv_at hl 0 rfl) ?_
  refine lv_ldcw (own := RJ6) (v := (858993459 : Int32)) hx hb hown (hts _ k_31_23) dJ6_bitCount_0f7a4_11 ?_
  refine lv_iand hx hb dJ6_bitCount_0f7a4_14 ?_
  refine x_eqi (show (0 : Int32) &&& (858993459 : Int32) = (0 : Int32) from by decide +kernel) ?_
  refine lv_iload_n hx hb dJ6_bitCount_0f7a4_15 rfl (lv_at hl 0 rfl) ?_
  refine lv_iconst (v := (2 : Int32)) hx hb dJ6_bitCount_0f7a4_16 (by decide) ?_
  refine lv_iushr hx hb dJ6_bitCount_0f7a4_17 rfl ?_
  refine x_eqi (show ((0 : Int32).toUInt32 >>> ((2 : Int32).toUInt32 &&& Int32.toUInt32 31)).toInt32 = (0 : Int32) from by decide +kernel) ?_
  refine lv_ldcw (own := RJ6) (v := (858993459 : Int32)) hx hb hown (hts _ k_31_23) dJ6_bitCount_0f7a4_18 ?_
  refine lv_iand hx hb dJ6_bitCount_0f7a4_21 ?_
  refine x_eqi (show (0 : Int32) &&& (858993459 : Int32) = (0 : Int32) from by decide +kernel) ?_
  refine lv_iadd hx hb dJ6_bitCount_0f7a4_22 ?_
  refine x_eqi (show (0 : Int32) + (0 : Int32) = (0 : Int32) from by decide +kernel) ?_
  refine lv_istore_n (lv' := [(0, .int (0 : Int32))]) hx hb dJ6_bitCount_0f7a4_23 rfl hl (by decide) rfl (fun ls hl => ?_)
  refine lv_iload_n hx hb dJ6_bitCount_0f7a4_24 rfl (lv_at hl 0 rfl) ?_
  refine lv_iload_n hx hb dJ6_bitCount_0f7a4_25 rfl (lv_at hl 0 rfl) ?_
  refine lv_iconst (v := (4 : Int32)) hx hb dJ6_bitCount_0f7a4_26 (by decide) ?_
  refine lv_iushr hx hb dJ6_bitCount_0f7a4_27 rfl ?_
  refine x_eqi (show ((0 : Int32).toUInt32 >>> ((4 : Int32).toUInt32 &&& Int32.toUInt32 31)).toInt32 = (0 : Int32) from by decide +kernel) ?_
  refine lv_iadd hx hb dJ6_bitCount_0f7a4_28 ?_
  refine x_eqi (show (0 : Int32) + (0 : Int32) = (0 : Int32) from by decide +kernel) ?_
  refine lv_ldcw (own := RJ6) (v := (252645135 : Int32)) hx hb hown (hts _ k_32_0) dJ6_bitCount_0f7a4_29 ?_
  refine lv_iand hx hb dJ6_bitCount_0f7a4_32 ?_
  refine x_eqi (show (0 : Int32) &&& (252645135 : Int32) = (0 : Int32) from by decide +kernel) ?_
  refine lv_istore_n (lv' := [(0, .int (0 : Int32))]) hx hb dJ6_bitCount_0f7a4_33 rfl hl (by decide) rfl (fun ls hl => ?_)
  refine lv_iload_n hx hb dJ6_bitCount_0f7a4_34 rfl (lv_at hl 0 rfl) ?_
  refine lv_iload_n hx hb dJ6_bitCount_0f7a4_35 rfl (lv_at hl 0 rfl) ?_
  refine lv_bipush (v := (8 : Int32)) hx hb dJ6_bitCount_0f7a4_36 (by decide) ?_
  refine lv_iushr hx hb dJ6_bitCount_0f7a4_38 rfl ?_
  refine x_eqi (show ((0 : Int32).toUInt32 >>> ((8 : Int32).toUInt32 &&& Int32.toUInt32 31)).toInt32 = (0 : Int32) from by decide +kernel) ?_
  refine lv_iadd hx hb dJ6_bitCount_0f7a4_39 ?_
  refine x_eqi (show (0 : Int32) + (0 : Int32) = (0 : Int32) from by decide +kernel) ?_
  refine lv_istore_n (lv' := [(0, .int (0 : Int32))]) hx hb dJ6_bitCount_0f7a4_40 rfl hl (by decide) rfl (fun ls hl => ?_)
  refine lv_iload_n hx hb dJ6_bitCount_0f7a4_41 rfl (lv_at hl 0 rfl) ?_
  refine lv_iload_n hx hb dJ6_bitCount_0f7a4_42 rfl (lv_at hl 0 rfl) ?_
  refine lv_bipush (v := (16 : Int32)) hx hb dJ6_bitCount_0f7a4_43 (by decide) ?_
  refine lv_iushr hx hb dJ6_bitCount_0f7a4_45 rfl ?_
  refine x_eqi (show ((0 : Int32).toUInt32 >>> ((16 : Int32).toUInt32 &&& Int32.toUInt32 31)).toInt32 = (0 : Int32) from by decide +kernel) ?_
  refine lv_iadd hx hb dJ6_bitCount_0f7a4_46 ?_
  refine x_eqi (show (0 : Int32) + (0 : Int32) = (0 : Int32) from by decide +kernel) ?_
  refine lv_istore_n (lv' := [(0, .int (0 : Int32))]) hx hb dJ6_bitCount_0f7a4_47 rfl hl (by decide) rfl (fun ls hl => ?_)
  refine lv_iload_n hx hb dJ6_bitCount_0f7a4_48 rfl (lv_at hl 0 rfl) ?_
  refine lv_bipush (v := (63 : Int32)) hx hb dJ6_bitCount_0f7a4_49 (by decide) ?_
  refine lv_iand hx hb dJ6_bitCount_0f7a4_51 ?_
  refine x_eqi (show (0 : Int32) &&& (63 : Int32) = (0 : Int32) from by decide +kernel) ?_
  exact x_iret C X hr hlk (v := (0 : Int32)) (by first | rfl | decide) (()) [] (by decide) rfl (⟨rfl, trivial⟩) (Nat.le_of_ble_eq_true rfl) (Nat.le_of_ble_eq_true rfl) dJ6_bitCount_0f7a4_52
set_option maxHeartbeats 4000000 in
set_option maxRecDepth 100000 in
theorem cx_line (l : Launch) (D : va_G) (cI cJ cZ cB : ClassId) (cO : ClassId) (x : Nat → Nat) (p1 p2 p3 p4 : Int32) :
    CI l D [(cI, .int), (cJ, .long), (cZ, .boolean), (cB, .byte), (cO, .object "LuckLinks$World")] yX11_line cX11_line 8 (some .int) ({ frames := 5, cells := 0, slots := 0, locals := 126 } : Room) [.ref (x 0), .int p1, .int p2, .int p3, .int p4] [((x 0), .inr (11, [.ref (x 1), .ref (x 10), .int (0 : Int32), .ref (x 11), .int (0 : Int32), .ref (x 12), .ref (x 34), .ref (x 50), .int (-1 : Int32), .ref (x 66), .ref (x 67), .ref (x 68), .ref (x 76), .ref (x 81), .ref (x 84), .ref (x 89), .ref (x 97)])), ((x 76), .inr (7, [.ref (x 1), .ref (x 77), .ref (x 80)])), ((x 77), .inr (5, [.ref (x 78), .ref (x 79), .int (0 : Int32)])), ((x 80), .inl (cI, 20, .inl (fun _ => (0 : Int32)))), ((x 1), .inr (10, [.int (0 : Int32), .ref (x 2), .int (0 : Int32), .ref (x 3), .ref (x 4), .int (0 : Int32), .ref (x 5), .ref (x 6), .ref (x 7), .ref (x 8), .ref (x 9), .long (1 : Int64)])), ((x 7), .inl (cI, 160, .inl (fun _ => (0 : Int32)))), ((x 34), .inr (3, [.int (0 : Int32), .ref (x 35), .ref (x 36), .ref (x 37), .ref (x 38), .ref (x 39), .ref (x 40), .ref (x 41), .int (0 : Int32), .ref (x 42), .ref (x 43), .ref (x 44), .int (0 : Int32), .ref (x 45), .ref (x 46), .ref (x 47), .ref (x 48), .int (0 : Int32), .ref (x 49)]))] (fun (r : Int32) (u : Unit) => (r = (0 : Int32) ∧ (1 ≤ p1.toInt ∧ p1.toInt ≤ 20 ∧ 0 ≤ p2.toInt ∧ p2.toInt ≤ p3.toInt ∧ p3.toInt ≤ 39 ∧ 0 ≤ p4.toInt ∧ p4.toInt ≤ 2)) ∨ (r = (-1 : Int32) ∧ (p1.toInt < 1 ∨ 20 < p1.toInt ∨ p2.toInt < 0 ∨ p3.toInt < p2.toInt ∨ 39 < p3.toInt ∨ p4.toInt < 0 ∨ 2 < p4.toInt))) (fun (_ : Unit) => []) := by
  intro sz
  refine body_of (y := yX11_line) (cc := cX11_line) (maxL := 8) (ret := (some .int)) (rm := ({ frames := 5, cells := 0, slots := 0, locals := 126 } : Room)) (wc := [((x 0), .inr (11, [.ref (x 1), .ref (x 10), .int (0 : Int32), .ref (x 11), .int (0 : Int32), .ref (x 12), .ref (x 34), .ref (x 50), .int (-1 : Int32), .ref (x 66), .ref (x 67), .ref (x 68), .ref (x 76), .ref (x 81), .ref (x 84), .ref (x 89), .ref (x 97)])), ((x 76), .inr (7, [.ref (x 1), .ref (x 77), .ref (x 80)])), ((x 77), .inr (5, [.ref (x 78), .ref (x 79), .int (0 : Int32)])), ((x 80), .inl (cI, 20, .inl (fun _ => (0 : Int32)))), ((x 1), .inr (10, [.int (0 : Int32), .ref (x 2), .int (0 : Int32), .ref (x 3), .ref (x 4), .int (0 : Int32), .ref (x 5), .ref (x 6), .ref (x 7), .ref (x 8), .ref (x 9), .long (1 : Int64)])), ((x 7), .inl (cI, 160, .inl (fun _ => (0 : Int32)))), ((x 34), .inr (3, [.int (0 : Int32), .ref (x 35), .ref (x 36), .ref (x 37), .ref (x 38), .ref (x 39), .ref (x 40), .ref (x 41), .int (0 : Int32), .ref (x 42), .ref (x 43), .ref (x 44), .int (0 : Int32), .ref (x 45), .ref (x 46), .ref (x 47), .ref (x 48), .int (0 : Int32), .ref (x 49)]))]) (tys := [(cI, .int), (cJ, .long), (cZ, .boolean), (cB, .byte), (cO, .object "LuckLinks$World")]) (D := D) (sz := sz) (own := RX11) (av := [.ref (x 0), .int p1, .int p2, .int p3, .int p4]) (Qc := fun A => va_Qi (fun (r : Int32) (u : Unit) => (r = (0 : Int32) ∧ (1 ≤ p1.toInt ∧ p1.toInt ≤ 20 ∧ 0 ≤ p2.toInt ∧ p2.toInt ≤ p3.toInt ∧ p3.toInt ≤ 39 ∧ 0 ≤ p4.toInt ∧ p4.toInt ≤ 2)) ∨ (r = (-1 : Int32) ∧ (p1.toInt < 1 ∨ 20 < p1.toInt ∨ p2.toInt < 0 ∨ p3.toInt < p2.toInt ∨ 39 < p3.toInt ∨ p4.toInt < 0 ∨ 2 < p4.toInt))) (fun u t => Aft D A ((fun (_ : Unit) => []) u) t) A) (by decide) rfl (Nat.le_of_ble_eq_true rfl) (fun p e s m below meth c A ls C hr hlk hin X hl => ?_)
  have hx := C.1
  have hb := C.2.1
  have hown := C.2.2.2.1
  have hts := C.2.2.2.2.1
  have hl : lv_has ls 8 [(0, .ref (x 0)), (1, .int p1), (2, .int p2), (3, .int p3), (4, .int p4)] := hl
  show W p l e _ s m _ below meth c s.heap [] 0 0 (MQ below (va_Qi (fun (r : Int32) (u : Unit) => (r = (0 : Int32) ∧ (1 ≤ p1.toInt ∧ p1.toInt ≤ 20 ∧ 0 ≤ p2.toInt ∧ p2.toInt ≤ p3.toInt ∧ p3.toInt ≤ 39 ∧ 0 ≤ p4.toInt ∧ p4.toInt ≤ 2)) ∨ (r = (-1 : Int32) ∧ (p1.toInt < 1 ∨ 20 < p1.toInt ∨ p2.toInt < 0 ∨ p3.toInt < p2.toInt ∨ 39 < p3.toInt ∨ p4.toInt < 0 ∨ 2 < p4.toInt))) (fun u t => Aft D A ((fun (_ : Unit) => []) u) t) A) ([.ref (x 0), .int p1, .int p2, .int p3, .int p4] : List Value).toArray s 0 0 A) (F0 m 0 ls [])
  have X : Wd D A s [((x 0), .inr (11, [.ref (x 1), .ref (x 10), .int (0 : Int32), .ref (x 11), .int (0 : Int32), .ref (x 12), .ref (x 34), .ref (x 50), .int (-1 : Int32), .ref (x 66), .ref (x 67), .ref (x 68), .ref (x 76), .ref (x 81), .ref (x 84), .ref (x 89), .ref (x 97)])), ((x 76), .inr (7, [.ref (x 1), .ref (x 77), .ref (x 80)])), ((x 77), .inr (5, [.ref (x 78), .ref (x 79), .int (0 : Int32)])), ((x 80), .inl (cI, 20, .inl (fun _ => (0 : Int32)))), ((x 1), .inr (10, [.int (0 : Int32), .ref (x 2), .int (0 : Int32), .ref (x 3), .ref (x 4), .int (0 : Int32), .ref (x 5), .ref (x 6), .ref (x 7), .ref (x 8), .ref (x 9), .long (1 : Int64)])), ((x 7), .inl (cI, 160, .inl (fun _ => (0 : Int32)))), ((x 34), .inr (3, [.int (0 : Int32), .ref (x 35), .ref (x 36), .ref (x 37), .ref (x 38), .ref (x 39), .ref (x 40), .ref (x 41), .int (0 : Int32), .ref (x 42), .ref (x 43), .ref (x 44), .int (0 : Int32), .ref (x 45), .ref (x 46), .ref (x 47), .ref (x 48), .int (0 : Int32), .ref (x 49)]))] s.heap [] := X
  obtain ⟨H, locs, eH, eL⟩ : ∃ H locs, H = s.heap ∧ locs = ([] : List Loc) := ⟨_, _, rfl, rfl⟩
  rw [← eH, ← eL] at X ⊢
  clear eH eL
  refine lv_iload_n hx hb dX11_line_0 rfl (lv_at hl 1 rfl) ?_
  refine lv_iconst (v := (1 : Int32)) hx hb dX11_line_1 (by decide) ?_
  refine lv_bipush (v := (20 : Int32)) hx hb dX11_line_2 (by decide) ?_
  refine x_cS (own := RX11) (wr := [((x 0), .inr (11, [.ref (x 1), .ref (x 10), .int (0 : Int32), .ref (x 11), .int (0 : Int32), .ref (x 12), .ref (x 34), .ref (x 50), .int (-1 : Int32), .ref (x 66), .ref (x 67), .ref (x 68), .ref (x 76), .ref (x 81), .ref (x 84), .ref (x 89), .ref (x 97)])), ((x 76), .inr (7, [.ref (x 1), .ref (x 77), .ref (x 80)])), ((x 77), .inr (5, [.ref (x 78), .ref (x 79), .int (0 : Int32)])), ((x 80), .inl (cI, 20, .inl (fun _ => (0 : Int32)))), ((x 1), .inr (10, [.int (0 : Int32), .ref (x 2), .int (0 : Int32), .ref (x 3), .ref (x 4), .int (0 : Int32), .ref (x 5), .ref (x 6), .ref (x 7), .ref (x 8), .ref (x 9), .long (1 : Int64)])), ((x 7), .inl (cI, 160, .inl (fun _ => (0 : Int32)))), ((x 34), .inr (3, [.int (0 : Int32), .ref (x 35), .ref (x 36), .ref (x 37), .ref (x 38), .ref (x 39), .ref (x 40), .ref (x 41), .int (0 : Int32), .ref (x 42), .ref (x 43), .ref (x 44), .int (0 : Int32), .ref (x 45), .ref (x 46), .ref (x 47), .ref (x 48), .int (0 : Int32), .ref (x 49)]))]) (As := [.int p1, .int (1 : Int32), .int (20 : Int32)]) C X hl.1 (c_isBetween l D cI cJ cZ cB cO p1 (1 : Int32) (20 : Int32)) [] [0, 1, 2, 3, 4, 5, 6] ⟨rfl, rfl, by decide, by decide, by decide⟩ k_12_5 k_12_6 k_1_2 k_12_7 (n := 3) (by decide +kernel) ⟨Nat.le_of_ble_eq_true rfl, Nat.le_of_ble_eq_true rfl⟩ rfl rfl (Nat.le_of_ble_eq_true rfl) dX11_line_4 ⟨Nat.le_of_ble_eq_true rfl, Nat.le_of_ble_eq_true rfl⟩ (fun r_2 u_1 H locs w_3 X => ?_)
  have X : Wd D A s [((x 0), .inr (11, [.ref (x 1), .ref (x 10), .int (0 : Int32), .ref (x 11), .int (0 : Int32), .ref (x 12), .ref (x 34), .ref (x 50), .int (-1 : Int32), .ref (x 66), .ref (x 67), .ref (x 68), .ref (x 76), .ref (x 81), .ref (x 84), .ref (x 89), .ref (x 97)])), ((x 76), .inr (7, [.ref (x 1), .ref (x 77), .ref (x 80)])), ((x 77), .inr (5, [.ref (x 78), .ref (x 79), .int (0 : Int32)])), ((x 80), .inl (cI, 20, .inl (fun _ => (0 : Int32)))), ((x 1), .inr (10, [.int (0 : Int32), .ref (x 2), .int (0 : Int32), .ref (x 3), .ref (x 4), .int (0 : Int32), .ref (x 5), .ref (x 6), .ref (x 7), .ref (x 8), .ref (x 9), .long (1 : Int64)])), ((x 7), .inl (cI, 160, .inl (fun _ => (0 : Int32)))), ((x 34), .inr (3, [.int (0 : Int32), .ref (x 35), .ref (x 36), .ref (x 37), .ref (x 38), .ref (x 39), .ref (x 40), .ref (x 41), .int (0 : Int32), .ref (x 42), .ref (x 43), .ref (x 44), .int (0 : Int32), .ref (x 45), .ref (x 46), .ref (x 47), .ref (x 48), .int (0 : Int32), .ref (x 49)]))] H locs := X
  refine W.widen (k := 0) (n := 0) (Nat.le_of_ble_eq_true rfl) (Nat.le_of_ble_eq_true rfl) ?_
  obtain ⟨rfl, fw_3⟩ | ⟨rfl, fw_3⟩ : (r_2 = (1 : Int32) ∧ ((1 : Int) ≤ (p1).toInt ∧ (p1).toInt ≤ (20 : Int))) ∨ (r_2 = (0 : Int32) ∧ ((p1).toInt < (1 : Int) ∨ (20 : Int) < (p1).toInt)) := w_3
  · refine lv_if_eq (tgt := 18) hx hb dX11_line_7 (by decide) (fun c0 => absurd c0 (by decide)) (fun _ => ?_)
    refine lv_iload_n hx hb dX11_line_10 rfl (lv_at hl 2 rfl) ?_
    refine lv_iload_n hx hb dX11_line_11 rfl (lv_at hl 3 rfl) ?_
    refine x_cS (own := RX11) (wr := [((x 0), .inr (11, [.ref (x 1), .ref (x 10), .int (0 : Int32), .ref (x 11), .int (0 : Int32), .ref (x 12), .ref (x 34), .ref (x 50), .int (-1 : Int32), .ref (x 66), .ref (x 67), .ref (x 68), .ref (x 76), .ref (x 81), .ref (x 84), .ref (x 89), .ref (x 97)])), ((x 76), .inr (7, [.ref (x 1), .ref (x 77), .ref (x 80)])), ((x 77), .inr (5, [.ref (x 78), .ref (x 79), .int (0 : Int32)])), ((x 80), .inl (cI, 20, .inl (fun _ => (0 : Int32)))), ((x 1), .inr (10, [.int (0 : Int32), .ref (x 2), .int (0 : Int32), .ref (x 3), .ref (x 4), .int (0 : Int32), .ref (x 5), .ref (x 6), .ref (x 7), .ref (x 8), .ref (x 9), .long (1 : Int64)])), ((x 7), .inl (cI, 160, .inl (fun _ => (0 : Int32)))), ((x 34), .inr (3, [.int (0 : Int32), .ref (x 35), .ref (x 36), .ref (x 37), .ref (x 38), .ref (x 39), .ref (x 40), .ref (x 41), .int (0 : Int32), .ref (x 42), .ref (x 43), .ref (x 44), .int (0 : Int32), .ref (x 45), .ref (x 46), .ref (x 47), .ref (x 48), .int (0 : Int32), .ref (x 49)]))]) (As := [.int p2, .int p3]) C X hl.1 (c_areWeeks l D cI cJ cZ cB cO p2 p3) [] [0, 1, 2, 3, 4, 5, 6] ⟨rfl, rfl, by decide, by decide, by decide⟩ k_41_2 k_41_3 k_1_2 k_41_4 (n := 2) (by decide +kernel) ⟨Nat.le_of_ble_eq_true rfl, Nat.le_of_ble_eq_true rfl⟩ rfl rfl (Nat.le_of_ble_eq_true rfl) dX11_line_12 ⟨Nat.le_of_ble_eq_true rfl, Nat.le_of_ble_eq_true rfl⟩ (fun r_5 u_4 H locs w_6 X => ?_)
    have X : Wd D A s [((x 0), .inr (11, [.ref (x 1), .ref (x 10), .int (0 : Int32), .ref (x 11), .int (0 : Int32), .ref (x 12), .ref (x 34), .ref (x 50), .int (-1 : Int32), .ref (x 66), .ref (x 67), .ref (x 68), .ref (x 76), .ref (x 81), .ref (x 84), .ref (x 89), .ref (x 97)])), ((x 76), .inr (7, [.ref (x 1), .ref (x 77), .ref (x 80)])), ((x 77), .inr (5, [.ref (x 78), .ref (x 79), .int (0 : Int32)])), ((x 80), .inl (cI, 20, .inl (fun _ => (0 : Int32)))), ((x 1), .inr (10, [.int (0 : Int32), .ref (x 2), .int (0 : Int32), .ref (x 3), .ref (x 4), .int (0 : Int32), .ref (x 5), .ref (x 6), .ref (x 7), .ref (x 8), .ref (x 9), .long (1 : Int64)])), ((x 7), .inl (cI, 160, .inl (fun _ => (0 : Int32)))), ((x 34), .inr (3, [.int (0 : Int32), .ref (x 35), .ref (x 36), .ref (x 37), .ref (x 38), .ref (x 39), .ref (x 40), .ref (x 41), .int (0 : Int32), .ref (x 42), .ref (x 43), .ref (x 44), .int (0 : Int32), .ref (x 45), .ref (x 46), .ref (x 47), .ref (x 48), .int (0 : Int32), .ref (x 49)]))] H locs := X
    refine W.widen (k := 0) (n := 0) (Nat.le_of_ble_eq_true rfl) (Nat.le_of_ble_eq_true rfl) ?_
    obtain ⟨rfl, fw_6⟩ | ⟨rfl, fw_6⟩ : (r_5 = (1 : Int32) ∧ (0 ≤ (p2).toInt ∧ (p2).toInt ≤ (p3).toInt ∧ (p3).toInt ≤ 39)) ∨ (r_5 = (0 : Int32) ∧ ((p2).toInt < 0 ∨ (p3).toInt < (p2).toInt ∨ 39 < (p3).toInt)) := w_6
    · refine lv_if_ne (tgt := 20) hx hb dX11_line_15 (by decide) (fun _ => ?_) (fun c0 => absurd c0 (by decide))
      obtain ⟨j2, hj2, hqj2⟩ := i_ex (x := p2) 40 (by omega) (by omega)
      have ej2 : p2.toInt = (j2 : Int) := by rw [hqj2]; exact nI_toInt (by omega)
      rw [hqj2] at hl
      have hl : lv_has ls 8 [(0, .ref (x 0)), (1, .int p1), (2, .int (nI (j2))), (3, .int p3), (4, .int p4)] := hl
      obtain ⟨j3, hj3, hqj3⟩ := i_ex (x := p3) 40 (by omega) (by omega)
      have ej3 : p3.toInt = (j3 : Int) := by rw [hqj3]; exact nI_toInt (by omega)
      rw [hqj3] at hl
      have hl : lv_has ls 8 [(0, .ref (x 0)), (1, .int p1), (2, .int (nI (j2))), (3, .int (nI (j3))), (4, .int p4)] := hl
      refine lv_aload_n hx hb dX11_line_20 rfl (lv_at hl 0 rfl) ?_
      refine x_get (own := RX11) (T := TX11) C X 0 rfl rfl 12 (by decide) k_2_20 rfl rfl (v := .ref (x 76)) rfl dX11_line_21 ?_
      refine lv_iload_n hx hb dX11_line_24 rfl (lv_at hl 2 rfl) ?_
      refine lv_iload_n hx hb dX11_line_25 rfl (lv_at hl 3 rfl) ?_
      refine lv_iconst (v := (2 : Int32)) hx hb dX11_line_26 (by decide) ?_
      refine lv_iload_n hx hb dX11_line_27 rfl (lv_at hl 1 rfl) ?_
      refine lv_aload_n hx hb dX11_line_28 rfl (lv_at hl 0 rfl) ?_
      refine x_get (own := RX11) (T := TX11) C X 0 rfl rfl 6 (by decide) k_2_4 rfl rfl (v := .ref (x 34)) rfl dX11_line_29 ?_
      refine x_get (own := RX11) (T := TX3) C X 6 rfl rfl 5 (by decide) k_30_17 rfl rfl (v := .ref (x 39)) rfl dX11_line_32 ?_
      refine x_cV (own := RX11) (wr := [((x 0), .inr (11, [.ref (x 1), .ref (x 10), .int (0 : Int32), .ref (x 11), .int (0 : Int32), .ref (x 12), .ref (x 34), .ref (x 50), .int (-1 : Int32), .ref (x 66), .ref (x 67), .ref (x 68), .ref (x 76), .ref (x 81), .ref (x 84), .ref (x 89), .ref (x 97)])), ((x 34), .inr (3, [.int (0 : Int32), .ref (x 35), .ref (x 36), .ref (x 37), .ref (x 38), .ref (x 39), .ref (x 40), .ref (x 41), .int (0 : Int32), .ref (x 42), .ref (x 43), .ref (x 44), .int (0 : Int32), .ref (x 45), .ref (x 46), .ref (x 47), .ref (x 48), .int (0 : Int32), .ref (x 49)]))]) (As := [.int (nI (j2)), .int (nI (j3)), .int (2 : Int32), .int p1, .ref (x 39)]) C X hl.1 (c_firstOf l D cI cJ cZ cB cO (fun k => x (k + 76)) (fun k => x (k + 1)) (x 39) j2 j3 (2 : Int32) p1 (by omega) (by omega)) [1, 2, 3, 4, 5] [0, 6] ⟨rfl, rfl, by decide, by decide, by decide⟩ (qb := 0) rfl rfl k_59_16 k_59_17 k_59_18 k_2_19 k_59_19 (n := 5) (by decide +kernel) ⟨Nat.le_of_ble_eq_true rfl, Nat.le_of_ble_eq_true rfl⟩ rfl rfl (Nat.le_of_ble_eq_true rfl) dX11_line_35 ⟨Nat.le_of_ble_eq_true rfl, Nat.le_of_ble_eq_true rfl⟩ (fun r_8 u_7 H locs w_9 X => ?_)
      have X : Wd D A s [((x 0), .inr (11, [.ref (x 1), .ref (x 10), .int (0 : Int32), .ref (x 11), .int (0 : Int32), .ref (x 12), .ref (x 34), .ref (x 50), .int (-1 : Int32), .ref (x 66), .ref (x 67), .ref (x 68), .ref (x 76), .ref (x 81), .ref (x 84), .ref (x 89), .ref (x 97)])), ((x 34), .inr (3, [.int (0 : Int32), .ref (x 35), .ref (x 36), .ref (x 37), .ref (x 38), .ref (x 39), .ref (x 40), .ref (x 41), .int (0 : Int32), .ref (x 42), .ref (x 43), .ref (x 44), .int (0 : Int32), .ref (x 45), .ref (x 46), .ref (x 47), .ref (x 48), .int (0 : Int32), .ref (x 49)])), ((x 76), .inr (7, [.ref (x 1), .ref (x 77), .ref (x 80)])), ((x 77), .inr (5, [.ref (x 78), .ref (x 79), .int (0 : Int32)])), ((x 80), .inl (cI, 20, .inl (fun _ => (0 : Int32)))), ((x 1), .inr (10, [.int (0 : Int32), .ref (x 2), .int (0 : Int32), .ref (x 3), .ref (x 4), .int (0 : Int32), .ref (x 5), .ref (x 6), .ref (x 7), .ref (x 8), .ref (x 9), .long (1 : Int64)])), ((x 7), .inl (cI, 160, .inl (fun _ => (0 : Int32))))] H locs := X
      refine W.widen (k := 0) (n := 0) (Nat.le_of_ble_eq_true rfl) (Nat.le_of_ble_eq_true rfl) ?_
      obtain ⟨rfl, fw_9⟩ : r_8 = (0 : Int32) ∧ True := w_9
      refine lv_istore (lv' := [(5, .int (0 : Int32)), (0, .ref (x 0)), (1, .int p1), (2, .int (nI (j2))), (3, .int (nI (j3))), (4, .int p4)]) hx hb dX11_line_38 hl (by decide) rfl (fun ls hl => ?_)
      refine lv_aload_n hx hb dX11_line_40 rfl (lv_at hl 1 rfl) ?_
      refine x_get (own := RX11) (T := TX11) C X 0 rfl rfl 12 (by decide) k_2_20 rfl rfl (v := .ref (x 76)) rfl dX11_line_41 ?_
      refine lv_iload_n hx hb dX11_line_44 rfl (lv_at hl 3 rfl) ?_
      refine lv_iload_n hx hb dX11_line_45 rfl (lv_at hl 4 rfl) ?_
      refine lv_iconst (v := (0 : Int32)) hx hb dX11_line_46 (by decide) ?_
      refine lv_iload_n hx hb dX11_line_47 rfl (lv_at hl 2 rfl) ?_
      refine lv_aload_n hx hb dX11_line_48 rfl (lv_at hl 1 rfl) ?_
      refine x_get (own := RX11) (T := TX11) C X 0 rfl rfl 6 (by decide) k_2_4 rfl rfl (v := .ref (x 34)) rfl dX11_line_49 ?_
      refine x_get (own := RX11) (T := TX3) C X 1 rfl rfl 5 (by decide) k_30_17 rfl rfl (v := .ref (x 39)) rfl dX11_line_52 ?_
      refine x_cV (own := RX11) (wr := [((x 0), .inr (11, [.ref (x 1), .ref (x 10), .int (0 : Int32), .ref (x 11), .int (0 : Int32), .ref (x 12), .ref (x 34), .ref (x 50), .int (-1 : Int32), .ref (x 66), .ref (x 67), .ref (x 68), .ref (x 76), .ref (x 81), .ref (x 84), .ref (x 89), .ref (x 97)])), ((x 34), .inr (3, [.int (0 : Int32), .ref (x 35), .ref (x 36), .ref (x 37), .ref (x 38), .ref (x 39), .ref (x 40), .ref (x 41), .int (0 : Int32), .ref (x 42), .ref (x 43), .ref (x 44), .int (0 : Int32), .ref (x 45), .ref (x 46), .ref (x 47), .ref (x 48), .int (0 : Int32), .ref (x 49)]))]) (As := [.int (nI (j2)), .int (nI (j3)), .int (0 : Int32), .int p1, .ref (x 39)]) C X hl.1 (c_firstOf l D cI cJ cZ cB cO (fun k => x (k + 76)) (fun k => x (k + 1)) (x 39) j2 j3 (0 : Int32) p1 (by omega) (by omega)) [2, 3, 4, 5, 6] [0, 1] ⟨rfl, rfl, by decide, by decide, by decide⟩ (qb := 0) rfl rfl k_59_16 k_59_17 k_59_18 k_2_19 k_59_19 (n := 5) (by decide +kernel) ⟨Nat.le_of_ble_eq_true rfl, Nat.le_of_ble_eq_true rfl⟩ rfl rfl (Nat.le_of_ble_eq_true rfl) dX11_line_55 ⟨Nat.le_of_ble_eq_true rfl, Nat.le_of_ble_eq_true rfl⟩ (fun r_11 u_10 H locs w_12 X => ?_)
      have X : Wd D A s [((x 0), .inr (11, [.ref (x 1), .ref (x 10), .int (0 : Int32), .ref (x 11), .int (0 : Int32), .ref (x 12), .ref (x 34), .ref (x 50), .int (-1 : Int32), .ref (x 66), .ref (x 67), .ref (x 68), .ref (x 76), .ref (x 81), .ref (x 84), .ref (x 89), .ref (x 97)])), ((x 34), .inr (3, [.int (0 : Int32), .ref (x 35), .ref (x 36), .ref (x 37), .ref (x 38), .ref (x 39), .ref (x 40), .ref (x 41), .int (0 : Int32), .ref (x 42), .ref (x 43), .ref (x 44), .int (0 : Int32), .ref (x 45), .ref (x 46), .ref (x 47), .ref (x 48), .int (0 : Int32), .ref (x 49)])), ((x 76), .inr (7, [.ref (x 1), .ref (x 77), .ref (x 80)])), ((x 77), .inr (5, [.ref (x 78), .ref (x 79), .int (0 : Int32)])), ((x 80), .inl (cI, 20, .inl (fun _ => (0 : Int32)))), ((x 1), .inr (10, [.int (0 : Int32), .ref (x 2), .int (0 : Int32), .ref (x 3), .ref (x 4), .int (0 : Int32), .ref (x 5), .ref (x 6), .ref (x 7), .ref (x 8), .ref (x 9), .long (1 : Int64)])), ((x 7), .inl (cI, 160, .inl (fun _ => (0 : Int32))))] H locs := X
      refine W.widen (k := 0) (n := 0) (Nat.le_of_ble_eq_true rfl) (Nat.le_of_ble_eq_true rfl) ?_
      obtain ⟨rfl, fw_12⟩ : r_11 = (0 : Int32) ∧ True := w_12
      refine lv_istore (lv' := [(6, .int (0 : Int32)), (5, .int (0 : Int32)), (0, .ref (x 0)), (1, .int p1), (2, .int (nI (j2))), (3, .int (nI (j3))), (4, .int p4)]) hx hb dX11_line_58 hl (by decide) rfl (fun ls hl => ?_)
      refine lv_aload_n hx hb dX11_line_60 rfl (lv_at hl 2 rfl) ?_
      refine x_get (own := RX11) (T := TX11) C X 0 rfl rfl 12 (by decide) k_2_20 rfl rfl (v := .ref (x 76)) rfl dX11_line_61 ?_
      refine lv_iload_n hx hb dX11_line_64 rfl (lv_at hl 4 rfl) ?_
      refine lv_iload_n hx hb dX11_line_65 rfl (lv_at hl 5 rfl) ?_
      refine lv_iconst (v := (1 : Int32)) hx hb dX11_line_66 (by decide) ?_
      refine lv_iload_n hx hb dX11_line_67 rfl (lv_at hl 3 rfl) ?_
      refine lv_aload_n hx hb dX11_line_68 rfl (lv_at hl 2 rfl) ?_
      refine x_get (own := RX11) (T := TX11) C X 0 rfl rfl 6 (by decide) k_2_4 rfl rfl (v := .ref (x 34)) rfl dX11_line_69 ?_
      refine x_get (own := RX11) (T := TX3) C X 1 rfl rfl 5 (by decide) k_30_17 rfl rfl (v := .ref (x 39)) rfl dX11_line_72 ?_
      refine x_cV (own := RX11) (wr := [((x 0), .inr (11, [.ref (x 1), .ref (x 10), .int (0 : Int32), .ref (x 11), .int (0 : Int32), .ref (x 12), .ref (x 34), .ref (x 50), .int (-1 : Int32), .ref (x 66), .ref (x 67), .ref (x 68), .ref (x 76), .ref (x 81), .ref (x 84), .ref (x 89), .ref (x 97)])), ((x 34), .inr (3, [.int (0 : Int32), .ref (x 35), .ref (x 36), .ref (x 37), .ref (x 38), .ref (x 39), .ref (x 40), .ref (x 41), .int (0 : Int32), .ref (x 42), .ref (x 43), .ref (x 44), .int (0 : Int32), .ref (x 45), .ref (x 46), .ref (x 47), .ref (x 48), .int (0 : Int32), .ref (x 49)]))]) (As := [.int (nI (j2)), .int (nI (j3)), .int (1 : Int32), .int p1, .ref (x 39)]) C X hl.1 (c_firstOf l D cI cJ cZ cB cO (fun k => x (k + 76)) (fun k => x (k + 1)) (x 39) j2 j3 (1 : Int32) p1 (by omega) (by omega)) [2, 3, 4, 5, 6] [0, 1] ⟨rfl, rfl, by decide, by decide, by decide⟩ (qb := 0) rfl rfl k_59_16 k_59_17 k_59_18 k_2_19 k_59_19 (n := 5) (by decide +kernel) ⟨Nat.le_of_ble_eq_true rfl, Nat.le_of_ble_eq_true rfl⟩ rfl rfl (Nat.le_of_ble_eq_true rfl) dX11_line_75 ⟨Nat.le_of_ble_eq_true rfl, Nat.le_of_ble_eq_true rfl⟩ (fun r_14 u_13 H locs w_15 X => ?_)
      have X : Wd D A s [((x 0), .inr (11, [.ref (x 1), .ref (x 10), .int (0 : Int32), .ref (x 11), .int (0 : Int32), .ref (x 12), .ref (x 34), .ref (x 50), .int (-1 : Int32), .ref (x 66), .ref (x 67), .ref (x 68), .ref (x 76), .ref (x 81), .ref (x 84), .ref (x 89), .ref (x 97)])), ((x 34), .inr (3, [.int (0 : Int32), .ref (x 35), .ref (x 36), .ref (x 37), .ref (x 38), .ref (x 39), .ref (x 40), .ref (x 41), .int (0 : Int32), .ref (x 42), .ref (x 43), .ref (x 44), .int (0 : Int32), .ref (x 45), .ref (x 46), .ref (x 47), .ref (x 48), .int (0 : Int32), .ref (x 49)])), ((x 76), .inr (7, [.ref (x 1), .ref (x 77), .ref (x 80)])), ((x 77), .inr (5, [.ref (x 78), .ref (x 79), .int (0 : Int32)])), ((x 80), .inl (cI, 20, .inl (fun _ => (0 : Int32)))), ((x 1), .inr (10, [.int (0 : Int32), .ref (x 2), .int (0 : Int32), .ref (x 3), .ref (x 4), .int (0 : Int32), .ref (x 5), .ref (x 6), .ref (x 7), .ref (x 8), .ref (x 9), .long (1 : Int64)])), ((x 7), .inl (cI, 160, .inl (fun _ => (0 : Int32))))] H locs := X
      refine W.widen (k := 0) (n := 0) (Nat.le_of_ble_eq_true rfl) (Nat.le_of_ble_eq_true rfl) ?_
      obtain ⟨rfl, fw_15⟩ : r_14 = (0 : Int32) ∧ True := w_15
      refine lv_istore (lv' := [(7, .int (0 : Int32)), (6, .int (0 : Int32)), (5, .int (0 : Int32)), (0, .ref (x 0)), (1, .int p1), (2, .int (nI (j2))), (3, .int (nI (j3))), (4, .int p4)]) hx hb dX11_line_78 hl (by decide) rfl (fun ls hl => ?_)
      refine lv_iload hx hb dX11_line_80 (lv_at hl 7 rfl) ?_
      by_cases e_15 : p4 = (0 : Int32)
      · refine lv_tableIn (off := 26) (tgt := 108) hx hb dX11_line_82 (by rw [e_15]; decide) (by rw [e_15]; decide) (by rw [e_15]; rfl) (by decide) ?_
        have fe_15 : (p4).toInt = 0 := i_eq e_15
        refine lv_iload hx hb dX11_line_108 (lv_at hl 2 rfl) ?_
        refine lv_iload hx hb dX11_line_110 (lv_at hl 1 rfl) ?_
        refine lv_iconst (v := (-1 : Int32)) hx hb dX11_line_112 (by decide) ?_
        refine lv_ixor hx hb dX11_line_113 ?_
        refine x_eqi (show (0 : Int32) ^^^ (-1 : Int32) = (-1 : Int32) from by decide +kernel) ?_
        refine lv_iand hx hb dX11_line_114 ?_
        refine x_eqi (show (0 : Int32) &&& (-1 : Int32) = (0 : Int32) from by decide +kernel) ?_
        refine x_cS (own := RX11) (wr := [((x 0), .inr (11, [.ref (x 1), .ref (x 10), .int (0 : Int32), .ref (x 11), .int (0 : Int32), .ref (x 12), .ref (x 34), .ref (x 50), .int (-1 : Int32), .ref (x 66), .ref (x 67), .ref (x 68), .ref (x 76), .ref (x 81), .ref (x 84), .ref (x 89), .ref (x 97)])), ((x 34), .inr (3, [.int (0 : Int32), .ref (x 35), .ref (x 36), .ref (x 37), .ref (x 38), .ref (x 39), .ref (x 40), .ref (x 41), .int (0 : Int32), .ref (x 42), .ref (x 43), .ref (x 44), .int (0 : Int32), .ref (x 45), .ref (x 46), .ref (x 47), .ref (x 48), .int (0 : Int32), .ref (x 49)])), ((x 76), .inr (7, [.ref (x 1), .ref (x 77), .ref (x 80)])), ((x 77), .inr (5, [.ref (x 78), .ref (x 79), .int (0 : Int32)])), ((x 80), .inl (cI, 20, .inl (fun _ => (0 : Int32)))), ((x 1), .inr (10, [.int (0 : Int32), .ref (x 2), .int (0 : Int32), .ref (x 3), .ref (x 4), .int (0 : Int32), .ref (x 5), .ref (x 6), .ref (x 7), .ref (x 8), .ref (x 9), .long (1 : Int64)])), ((x 7), .inl (cI, 160, .inl (fun _ => (0 : Int32))))]) (As := [.int (0 : Int32)]) C X hl.1 (c_bitCount0 l D cI cJ cZ cB cO) [] [0, 1, 2, 3, 4, 5, 6] ⟨rfl, rfl, by decide, by decide, by decide⟩ k_31_18 k_31_19 k_31_20 k_31_21 (n := 1) (by decide +kernel) ⟨Nat.le_of_ble_eq_true rfl, Nat.le_of_ble_eq_true rfl⟩ rfl rfl (Nat.le_of_ble_eq_true rfl) dX11_line_115 ⟨Nat.le_of_ble_eq_true rfl, Nat.le_of_ble_eq_true rfl⟩ (fun r_18 u_17 H locs w_19 X => ?_)
        have X : Wd D A s [((x 0), .inr (11, [.ref (x 1), .ref (x 10), .int (0 : Int32), .ref (x 11), .int (0 : Int32), .ref (x 12), .ref (x 34), .ref (x 50), .int (-1 : Int32), .ref (x 66), .ref (x 67), .ref (x 68), .ref (x 76), .ref (x 81), .ref (x 84), .ref (x 89), .ref (x 97)])), ((x 34), .inr (3, [.int (0 : Int32), .ref (x 35), .ref (x 36), .ref (x 37), .ref (x 38), .ref (x 39), .ref (x 40), .ref (x 41), .int (0 : Int32), .ref (x 42), .ref (x 43), .ref (x 44), .int (0 : Int32), .ref (x 45), .ref (x 46), .ref (x 47), .ref (x 48), .int (0 : Int32), .ref (x 49)])), ((x 76), .inr (7, [.ref (x 1), .ref (x 77), .ref (x 80)])), ((x 77), .inr (5, [.ref (x 78), .ref (x 79), .int (0 : Int32)])), ((x 80), .inl (cI, 20, .inl (fun _ => (0 : Int32)))), ((x 1), .inr (10, [.int (0 : Int32), .ref (x 2), .int (0 : Int32), .ref (x 3), .ref (x 4), .int (0 : Int32), .ref (x 5), .ref (x 6), .ref (x 7), .ref (x 8), .ref (x 9), .long (1 : Int64)])), ((x 7), .inl (cI, 160, .inl (fun _ => (0 : Int32))))] H locs := X
        refine W.widen (k := 0) (n := 0) (Nat.le_of_ble_eq_true rfl) (Nat.le_of_ble_eq_true rfl) ?_
        obtain ⟨rfl, fw_19⟩ : r_18 = (0 : Int32) ∧ True := w_19
        exact x_iret C X hr hlk (v := (0 : Int32)) (by first | rfl | decide) (()) [] (by decide) rfl (Or.inl (⟨rfl, (by  omega)⟩)) (Nat.le_of_ble_eq_true rfl) (Nat.le_of_ble_eq_true rfl) dX11_line_118
      by_cases e_19 : p4 = (1 : Int32)
      · refine lv_tableIn (off := 37) (tgt := 119) hx hb dX11_line_82 (by rw [e_19]; decide) (by rw [e_19]; decide) (by rw [e_19]; rfl) (by decide) ?_
        have fe_19 : (p4).toInt = 1 := i_eq e_19
        refine lv_iload hx hb dX11_line_119 (lv_at hl 2 rfl) ?_
        refine lv_iload hx hb dX11_line_121 (lv_at hl 0 rfl) ?_
        refine lv_iconst (v := (-1 : Int32)) hx hb dX11_line_123 (by decide) ?_
        refine lv_ixor hx hb dX11_line_124 ?_
        refine x_eqi (show (0 : Int32) ^^^ (-1 : Int32) = (-1 : Int32) from by decide +kernel) ?_
        refine lv_iand hx hb dX11_line_125 ?_
        refine x_eqi (show (0 : Int32) &&& (-1 : Int32) = (0 : Int32) from by decide +kernel) ?_
        refine x_cS (own := RX11) (wr := [((x 0), .inr (11, [.ref (x 1), .ref (x 10), .int (0 : Int32), .ref (x 11), .int (0 : Int32), .ref (x 12), .ref (x 34), .ref (x 50), .int (-1 : Int32), .ref (x 66), .ref (x 67), .ref (x 68), .ref (x 76), .ref (x 81), .ref (x 84), .ref (x 89), .ref (x 97)])), ((x 34), .inr (3, [.int (0 : Int32), .ref (x 35), .ref (x 36), .ref (x 37), .ref (x 38), .ref (x 39), .ref (x 40), .ref (x 41), .int (0 : Int32), .ref (x 42), .ref (x 43), .ref (x 44), .int (0 : Int32), .ref (x 45), .ref (x 46), .ref (x 47), .ref (x 48), .int (0 : Int32), .ref (x 49)])), ((x 76), .inr (7, [.ref (x 1), .ref (x 77), .ref (x 80)])), ((x 77), .inr (5, [.ref (x 78), .ref (x 79), .int (0 : Int32)])), ((x 80), .inl (cI, 20, .inl (fun _ => (0 : Int32)))), ((x 1), .inr (10, [.int (0 : Int32), .ref (x 2), .int (0 : Int32), .ref (x 3), .ref (x 4), .int (0 : Int32), .ref (x 5), .ref (x 6), .ref (x 7), .ref (x 8), .ref (x 9), .long (1 : Int64)])), ((x 7), .inl (cI, 160, .inl (fun _ => (0 : Int32))))]) (As := [.int (0 : Int32)]) C X hl.1 (c_bitCount0 l D cI cJ cZ cB cO) [] [0, 1, 2, 3, 4, 5, 6] ⟨rfl, rfl, by decide, by decide, by decide⟩ k_31_18 k_31_19 k_31_20 k_31_21 (n := 1) (by decide +kernel) ⟨Nat.le_of_ble_eq_true rfl, Nat.le_of_ble_eq_true rfl⟩ rfl rfl (Nat.le_of_ble_eq_true rfl) dX11_line_126 ⟨Nat.le_of_ble_eq_true rfl, Nat.le_of_ble_eq_true rfl⟩ (fun r_22 u_21 H locs w_23 X => ?_)
        have X : Wd D A s [((x 0), .inr (11, [.ref (x 1), .ref (x 10), .int (0 : Int32), .ref (x 11), .int (0 : Int32), .ref (x 12), .ref (x 34), .ref (x 50), .int (-1 : Int32), .ref (x 66), .ref (x 67), .ref (x 68), .ref (x 76), .ref (x 81), .ref (x 84), .ref (x 89), .ref (x 97)])), ((x 34), .inr (3, [.int (0 : Int32), .ref (x 35), .ref (x 36), .ref (x 37), .ref (x 38), .ref (x 39), .ref (x 40), .ref (x 41), .int (0 : Int32), .ref (x 42), .ref (x 43), .ref (x 44), .int (0 : Int32), .ref (x 45), .ref (x 46), .ref (x 47), .ref (x 48), .int (0 : Int32), .ref (x 49)])), ((x 76), .inr (7, [.ref (x 1), .ref (x 77), .ref (x 80)])), ((x 77), .inr (5, [.ref (x 78), .ref (x 79), .int (0 : Int32)])), ((x 80), .inl (cI, 20, .inl (fun _ => (0 : Int32)))), ((x 1), .inr (10, [.int (0 : Int32), .ref (x 2), .int (0 : Int32), .ref (x 3), .ref (x 4), .int (0 : Int32), .ref (x 5), .ref (x 6), .ref (x 7), .ref (x 8), .ref (x 9), .long (1 : Int64)])), ((x 7), .inl (cI, 160, .inl (fun _ => (0 : Int32))))] H locs := X
        refine W.widen (k := 0) (n := 0) (Nat.le_of_ble_eq_true rfl) (Nat.le_of_ble_eq_true rfl) ?_
        obtain ⟨rfl, fw_23⟩ : r_22 = (0 : Int32) ∧ True := w_23
        exact x_iret C X hr hlk (v := (0 : Int32)) (by first | rfl | decide) (()) [] (by decide) rfl (Or.inl (⟨rfl, (by  omega)⟩)) (Nat.le_of_ble_eq_true rfl) (Nat.le_of_ble_eq_true rfl) dX11_line_129
      by_cases e_23 : p4 = (2 : Int32)
      · refine lv_tableIn (off := 48) (tgt := 130) hx hb dX11_line_82 (by rw [e_23]; decide) (by rw [e_23]; decide) (by rw [e_23]; rfl) (by decide) ?_
        have fe_23 : (p4).toInt = 2 := i_eq e_23
        refine lv_iload hx hb dX11_line_130 (lv_at hl 2 rfl) ?_
        refine lv_iload hx hb dX11_line_132 (lv_at hl 1 rfl) ?_
        refine lv_iconst (v := (-1 : Int32)) hx hb dX11_line_134 (by decide) ?_
        refine lv_ixor hx hb dX11_line_135 ?_
        refine x_eqi (show (0 : Int32) ^^^ (-1 : Int32) = (-1 : Int32) from by decide +kernel) ?_
        refine lv_iand hx hb dX11_line_136 ?_
        refine x_eqi (show (0 : Int32) &&& (-1 : Int32) = (0 : Int32) from by decide +kernel) ?_
        refine lv_iload hx hb dX11_line_137 (lv_at hl 0 rfl) ?_
        refine lv_iconst (v := (-1 : Int32)) hx hb dX11_line_139 (by decide) ?_
        refine lv_ixor hx hb dX11_line_140 ?_
        refine x_eqi (show (0 : Int32) ^^^ (-1 : Int32) = (-1 : Int32) from by decide +kernel) ?_
        refine lv_iand hx hb dX11_line_141 ?_
        refine x_eqi (show (0 : Int32) &&& (-1 : Int32) = (0 : Int32) from by decide +kernel) ?_
        refine x_cS (own := RX11) (wr := [((x 0), .inr (11, [.ref (x 1), .ref (x 10), .int (0 : Int32), .ref (x 11), .int (0 : Int32), .ref (x 12), .ref (x 34), .ref (x 50), .int (-1 : Int32), .ref (x 66), .ref (x 67), .ref (x 68), .ref (x 76), .ref (x 81), .ref (x 84), .ref (x 89), .ref (x 97)])), ((x 34), .inr (3, [.int (0 : Int32), .ref (x 35), .ref (x 36), .ref (x 37), .ref (x 38), .ref (x 39), .ref (x 40), .ref (x 41), .int (0 : Int32), .ref (x 42), .ref (x 43), .ref (x 44), .int (0 : Int32), .ref (x 45), .ref (x 46), .ref (x 47), .ref (x 48), .int (0 : Int32), .ref (x 49)])), ((x 76), .inr (7, [.ref (x 1), .ref (x 77), .ref (x 80)])), ((x 77), .inr (5, [.ref (x 78), .ref (x 79), .int (0 : Int32)])), ((x 80), .inl (cI, 20, .inl (fun _ => (0 : Int32)))), ((x 1), .inr (10, [.int (0 : Int32), .ref (x 2), .int (0 : Int32), .ref (x 3), .ref (x 4), .int (0 : Int32), .ref (x 5), .ref (x 6), .ref (x 7), .ref (x 8), .ref (x 9), .long (1 : Int64)])), ((x 7), .inl (cI, 160, .inl (fun _ => (0 : Int32))))]) (As := [.int (0 : Int32)]) C X hl.1 (c_bitCount0 l D cI cJ cZ cB cO) [] [0, 1, 2, 3, 4, 5, 6] ⟨rfl, rfl, by decide, by decide, by decide⟩ k_31_18 k_31_19 k_31_20 k_31_21 (n := 1) (by decide +kernel) ⟨Nat.le_of_ble_eq_true rfl, Nat.le_of_ble_eq_true rfl⟩ rfl rfl (Nat.le_of_ble_eq_true rfl) dX11_line_142 ⟨Nat.le_of_ble_eq_true rfl, Nat.le_of_ble_eq_true rfl⟩ (fun r_26 u_25 H locs w_27 X => ?_)
        have X : Wd D A s [((x 0), .inr (11, [.ref (x 1), .ref (x 10), .int (0 : Int32), .ref (x 11), .int (0 : Int32), .ref (x 12), .ref (x 34), .ref (x 50), .int (-1 : Int32), .ref (x 66), .ref (x 67), .ref (x 68), .ref (x 76), .ref (x 81), .ref (x 84), .ref (x 89), .ref (x 97)])), ((x 34), .inr (3, [.int (0 : Int32), .ref (x 35), .ref (x 36), .ref (x 37), .ref (x 38), .ref (x 39), .ref (x 40), .ref (x 41), .int (0 : Int32), .ref (x 42), .ref (x 43), .ref (x 44), .int (0 : Int32), .ref (x 45), .ref (x 46), .ref (x 47), .ref (x 48), .int (0 : Int32), .ref (x 49)])), ((x 76), .inr (7, [.ref (x 1), .ref (x 77), .ref (x 80)])), ((x 77), .inr (5, [.ref (x 78), .ref (x 79), .int (0 : Int32)])), ((x 80), .inl (cI, 20, .inl (fun _ => (0 : Int32)))), ((x 1), .inr (10, [.int (0 : Int32), .ref (x 2), .int (0 : Int32), .ref (x 3), .ref (x 4), .int (0 : Int32), .ref (x 5), .ref (x 6), .ref (x 7), .ref (x 8), .ref (x 9), .long (1 : Int64)])), ((x 7), .inl (cI, 160, .inl (fun _ => (0 : Int32))))] H locs := X
        refine W.widen (k := 0) (n := 0) (Nat.le_of_ble_eq_true rfl) (Nat.le_of_ble_eq_true rfl) ?_
        obtain ⟨rfl, fw_27⟩ : r_26 = (0 : Int32) ∧ True := w_27
        exact x_iret C X hr hlk (v := (0 : Int32)) (by first | rfl | decide) (()) [] (by decide) rfl (Or.inl (⟨rfl, (by  omega)⟩)) (Nat.le_of_ble_eq_true rfl) (Nat.le_of_ble_eq_true rfl) dX11_line_145
      refine lv_tableOut (tgt := 146) hx hb dX11_line_82 (by have g0 := i_ne (x := p4) (y := (0 : Int32)) (by assumption); have g0 : (p4).toInt ≠ 0 := g0; have g1 := i_ne (x := p4) (y := (1 : Int32)) (by assumption); have g1 : (p4).toInt ≠ 1 := g1; have g2 := i_ne (x := p4) (y := (2 : Int32)) (by assumption); have g2 : (p4).toInt ≠ 2 := g2; omega) (by decide) ?_
      have ge_27_0 : (p4).toInt ≠ 0 := i_ne (x := p4) (y := (0 : Int32)) (by assumption)
      have ge_27_1 : (p4).toInt ≠ 1 := i_ne (x := p4) (y := (1 : Int32)) (by assumption)
      have ge_27_2 : (p4).toInt ≠ 2 := i_ne (x := p4) (y := (2 : Int32)) (by assumption)
      refine lv_iconst (v := (-1 : Int32)) hx hb dX11_line_146 (by decide) ?_
      exact x_iret C X hr hlk (v := (-1 : Int32)) (by first | rfl | decide) (()) [] (by decide) rfl (Or.inr (⟨rfl, (by omega)⟩)) (Nat.le_of_ble_eq_true rfl) (Nat.le_of_ble_eq_true rfl) dX11_line_147
    · refine lv_if_ne (tgt := 20) hx hb dX11_line_15 (by decide) (fun c0 => absurd (by decide) c0) (fun _ => ?_)
      refine lv_iconst (v := (-1 : Int32)) hx hb dX11_line_18 (by decide) ?_
      exact x_iret C X hr hlk (v := (-1 : Int32)) (by first | rfl | decide) (()) [] (by decide) rfl (Or.inr (⟨rfl, by omega⟩)) (Nat.le_of_ble_eq_true rfl) (Nat.le_of_ble_eq_true rfl) dX11_line_19
  · refine lv_if_eq (tgt := 18) hx hb dX11_line_7 (by decide) (fun _ => ?_) (fun c0 => absurd (by decide) c0)
    refine lv_iconst (v := (-1 : Int32)) hx hb dX11_line_18 (by decide) ?_
    exact x_iret C X hr hlk (v := (-1 : Int32)) (by first | rfl | decide) (()) [] (by decide) rfl (Or.inr (⟨rfl, by omega⟩)) (Nat.le_of_ble_eq_true rfl) (Nat.le_of_ble_eq_true rfl) dX11_line_19
